set_option maxRecDepth 20000 in
theorem ggX12_must__X12_lex : GoodIn wsX12_must_ wsX12_lex := goodIn_r _ [7, 8, 9, 10, 11, 6, 12, 1, 13, 34, 35, 36, 37, 38, 39, 40, 41, 42, 43, 44, 45, 46, 47, 48, 49, 50, 51, 52, 53, 54, 55, 56, 57, 58, 59, 60, 61, 62, 63, 64, 65, 66, 67, 68, 69, 70, 71, 72, 73, 74, 75, 76, 77, 78, 79, 80, 81, 82, 83, 84, 85, 86, 87, 88, 89, 90, 91, 92, 93, 94, 95, 96, 97, 98, 99, 100, 101, 102, 103] rfl (by decide +kernel)
set_option maxRecDepth 20000 in
theorem gX12_must__X12_lex : GoodIn wsX12_must_ (wsV RX12 244 RX12 yX12_lex wsX12_lex) := goodIn_app (goodIn_of _ (by decide +kernel)) ggX12_must__X12_lex
set_option maxRecDepth 20000 in
theorem ggX12_must__X12_isWord : GoodIn wsX12_must_ wsX12_isWord := goodIn_r _ [17, 18, 19, 34, 35, 36, 37, 38, 39, 40, 41, 42, 43, 44, 45, 46, 47, 48, 49, 50, 51, 52, 53, 54, 55, 56, 57, 58, 59, 60, 61, 62, 63, 64, 65, 66, 67, 68, 69, 70, 71, 72, 73, 74, 75, 76, 77, 78, 79, 80, 81, 82, 83, 84, 85, 86, 87, 88, 89, 90, 91, 92, 93, 94, 95, 96, 97, 98, 99, 100, 101, 102, 103] rfl (by decide +kernel)
set_option maxRecDepth 20000 in
theorem gX12_must__X12_isWord : GoodIn wsX12_must_ (wsV RX12 317 RX12 yX12_isWord wsX12_isWord) := goodIn_app (goodIn_of _ (by decide +kernel)) ggX12_must__X12_isWord
set_option maxRecDepth 20000 in
theorem ggX12_must__X12_blame : GoodIn wsX12_must_ wsX12_blame := goodIn_r _ [12, 1, 13, 34, 35, 36, 37, 38, 39, 40, 41, 42, 43, 44, 45, 46, 47, 48, 49, 50, 51, 52, 53, 54, 55, 56, 57, 58, 59, 60, 61, 62, 63, 64, 65, 66, 67, 68, 69, 70, 71, 72, 73, 74, 75, 76, 77, 78, 79, 80, 81, 82, 83, 84, 85, 86, 87, 88, 89, 90, 91, 92, 93, 94, 95, 96, 97, 98, 99, 100, 101, 102, 103] rfl (by decide +kernel)
set_option maxRecDepth 20000 in
theorem gX12_must__X12_blame : GoodIn wsX12_must_ (wsV RX12 233 RX12 yX12_blame wsX12_blame) := goodIn_app (goodIn_of _ (by decide +kernel)) ggX12_must__X12_blame
set_option maxRecDepth 20000 in
theorem ggX12_must__X12_ahead : GoodIn wsX12_must_ wsX12_ahead := goodIn_r _ [23, 24, 25, 26, 2, 18, 8, 27, 19, 28, 29, 6, 30, 31, 32, 33, 34, 35, 36, 37, 38, 39, 40, 41, 42, 43, 44, 45, 46, 47, 48, 49, 50, 51, 52, 53, 54, 55, 56, 57, 58, 59, 60, 61, 62, 63, 64, 65, 66, 67, 68, 69, 70, 71, 72, 73, 74, 75, 76, 77, 78, 79, 80, 81, 82, 83, 84, 85, 86, 87, 88, 89, 90, 91, 92, 93, 94, 95, 96, 97, 98, 99, 100, 101, 102, 103] rfl (by decide +kernel)
set_option maxRecDepth 20000 in
theorem gX12_must__X12_ahead : GoodIn wsX12_must_ (wsV RX12 250 RX12 yX12_ahead wsX12_ahead) := goodIn_app (goodIn_of _ (by decide +kernel)) ggX12_must__X12_ahead
def dsX12_must__0 : List (Nat × Instr × Nat) := [(0, (.aload_n 0, 1)), (1, (.invokevirtual 244, 3)), (4, (.aload_n 0, 1)), (5, (.getfield 36, 3)), (8, (.ifCond .le 4, 3)), (11, (.return_, 1)), (12, (.aload_n 0, 1)), (13, (.lload_n 1, 1)), (14, (.invokevirtual 317, 3)), (17, (.ifCond .ne 12, 3)), (20, (.aload_n 0, 1)), (21, (.iconst 1, 1)), (22, (.aload_n 0, 1)), (23, (.getfield 23, 3)), (26, (.invokevirtual 233, 3)), (29, (.aload_n 0, 1)), (30, (.getfield 36, 3)), (33, (.ifCond .ne 7, 3)), (36, (.aload_n 0, 1)), (37, (.invokevirtual 250, 3)), (40, (.return_, 1))]
theorem dsX12_must__0_ok : (dsX12_must__0.all fun q => decide (decode cX12_must_ q.1 = .ok q.2)) = true := by decide +kernel
theorem dX12_must__0 : decode cX12_must_ 0 = .ok (.aload_n 0, 1) := of_decide_eq_true (List.all_eq_true.mp dsX12_must__0_ok (0, (.aload_n 0, 1)) (List.mem_of_getElem? (i := 0) rfl))
theorem dX12_must__1 : decode cX12_must_ 1 = .ok (.invokevirtual 244, 3) := of_decide_eq_true (List.all_eq_true.mp dsX12_must__0_ok (1, (.invokevirtual 244, 3)) (List.mem_of_getElem? (i := 1) rfl))
theorem dX12_must__4 : decode cX12_must_ 4 = .ok (.aload_n 0, 1) := of_decide_eq_true (List.all_eq_true.mp dsX12_must__0_ok (4, (.aload_n 0, 1)) (List.mem_of_getElem? (i := 2) rfl))
theorem dX12_must__5 : decode cX12_must_ 5 = .ok (.getfield 36, 3) := of_decide_eq_true (List.all_eq_true.mp dsX12_must__0_ok (5, (.getfield 36, 3)) (List.mem_of_getElem? (i := 3) rfl))
theorem dX12_must__8 : decode cX12_must_ 8 = .ok (.ifCond .le 4, 3) := of_decide_eq_true (List.all_eq_true.mp dsX12_must__0_ok (8, (.ifCond .le 4, 3)) (List.mem_of_getElem? (i := 4) rfl))
theorem dX12_must__11 : decode cX12_must_ 11 = .ok (.return_, 1) := of_decide_eq_true (List.all_eq_true.mp dsX12_must__0_ok (11, (.return_, 1)) (List.mem_of_getElem? (i := 5) rfl))
theorem dX12_must__12 : decode cX12_must_ 12 = .ok (.aload_n 0, 1) := of_decide_eq_true (List.all_eq_true.mp dsX12_must__0_ok (12, (.aload_n 0, 1)) (List.mem_of_getElem? (i := 6) rfl))
theorem dX12_must__13 : decode cX12_must_ 13 = .ok (.lload_n 1, 1) := of_decide_eq_true (List.all_eq_true.mp dsX12_must__0_ok (13, (.lload_n 1, 1)) (List.mem_of_getElem? (i := 7) rfl))
theorem dX12_must__14 : decode cX12_must_ 14 = .ok (.invokevirtual 317, 3) := of_decide_eq_true (List.all_eq_true.mp dsX12_must__0_ok (14, (.invokevirtual 317, 3)) (List.mem_of_getElem? (i := 8) rfl))
theorem dX12_must__17 : decode cX12_must_ 17 = .ok (.ifCond .ne 12, 3) := of_decide_eq_true (List.all_eq_true.mp dsX12_must__0_ok (17, (.ifCond .ne 12, 3)) (List.mem_of_getElem? (i := 9) rfl))
theorem dX12_must__20 : decode cX12_must_ 20 = .ok (.aload_n 0, 1) := of_decide_eq_true (List.all_eq_true.mp dsX12_must__0_ok (20, (.aload_n 0, 1)) (List.mem_of_getElem? (i := 10) rfl))
theorem dX12_must__21 : decode cX12_must_ 21 = .ok (.iconst 1, 1) := of_decide_eq_true (List.all_eq_true.mp dsX12_must__0_ok (21, (.iconst 1, 1)) (List.mem_of_getElem? (i := 11) rfl))
theorem dX12_must__22 : decode cX12_must_ 22 = .ok (.aload_n 0, 1) := of_decide_eq_true (List.all_eq_true.mp dsX12_must__0_ok (22, (.aload_n 0, 1)) (List.mem_of_getElem? (i := 12) rfl))
theorem dX12_must__23 : decode cX12_must_ 23 = .ok (.getfield 23, 3) := of_decide_eq_true (List.all_eq_true.mp dsX12_must__0_ok (23, (.getfield 23, 3)) (List.mem_of_getElem? (i := 13) rfl))
theorem dX12_must__26 : decode cX12_must_ 26 = .ok (.invokevirtual 233, 3) := of_decide_eq_true (List.all_eq_true.mp dsX12_must__0_ok (26, (.invokevirtual 233, 3)) (List.mem_of_getElem? (i := 14) rfl))
theorem dX12_must__29 : decode cX12_must_ 29 = .ok (.aload_n 0, 1) := of_decide_eq_true (List.all_eq_true.mp dsX12_must__0_ok (29, (.aload_n 0, 1)) (List.mem_of_getElem? (i := 15) rfl))
theorem dX12_must__30 : decode cX12_must_ 30 = .ok (.getfield 36, 3) := of_decide_eq_true (List.all_eq_true.mp dsX12_must__0_ok (30, (.getfield 36, 3)) (List.mem_of_getElem? (i := 16) rfl))
theorem dX12_must__33 : decode cX12_must_ 33 = .ok (.ifCond .ne 7, 3) := of_decide_eq_true (List.all_eq_true.mp dsX12_must__0_ok (33, (.ifCond .ne 7, 3)) (List.mem_of_getElem? (i := 17) rfl))
theorem dX12_must__36 : decode cX12_must_ 36 = .ok (.aload_n 0, 1) := of_decide_eq_true (List.all_eq_true.mp dsX12_must__0_ok (36, (.aload_n 0, 1)) (List.mem_of_getElem? (i := 18) rfl))
theorem dX12_must__37 : decode cX12_must_ 37 = .ok (.invokevirtual 250, 3) := of_decide_eq_true (List.all_eq_true.mp dsX12_must__0_ok (37, (.invokevirtual 250, 3)) (List.mem_of_getElem? (i := 19) rfl))
theorem dX12_must__40 : decode cX12_must_ 40 = .ok (.return_, 1) := of_decide_eq_true (List.all_eq_true.mp dsX12_must__0_ok (40, (.return_, 1)) (List.mem_of_getElem? (i := 20) rfl))
def fX12_must__b29 (N : Nat) (mm_tapeF : Nat → Int32)   : ((Nat → Int32) × (Nat → Int64)) → Option ((Nat → Int32) × (Nat → Int64)) :=
  fun (mmI_29, mmJ_29) => (if (mmI_29 8) = 0 then (xq_bd (fX12_ahead N mmI_29 mmJ_29 mm_tapeF) fun (r_1_0, r_1_1) => some ((r_1_0, r_1_1))) else some ((mmI_29, mmJ_29)))
def fX12_must_ (N : Nat) (mmI : Nat → Int32) (mmJ : Nat → Int64) (mm_tapeF : Nat → Int32)  (p1 : Int64) : Option ((Nat → Int32) × (Nat → Int64)) :=
  (xq_bd (fX12_lex N mmI) fun r_1 => (if (r_1 8) ≤ 0 then (xq_bd (fX12_isWord N r_1 mmJ p1) fun r_3 => (if r_3 = 0 then (xq_bd (fX12_blame N r_1 1 (r_1 4)) fun r_5 => fX12_must__b29 N mm_tapeF (r_5, mmJ)) else fX12_must__b29 N mm_tapeF (r_1, mmJ))) else some ((r_1, mmJ))))
set_option maxHeartbeats 4000000 in
set_option maxRecDepth 100000 in
theorem kX12_must_ (l : Launch) (dC : Nat → ClassId) (dI : Nat → Nat → Nat) (cI cB cJ cZ cM : ClassId) (z : Nat) (ad : Nat → Nat) (N : Nat) (a_p0 : Nat) (mmI : Nat → Int32) (mmJ : Nat → Int64) (mmR : Nat → Nat) (mm_tapeF : Nat → Int32) (p1 : Int64) {r0 : Nat → Int32} {r1 : Nat → Int64} (hf : fX12_must_ N mmI mmJ mm_tapeF p1 = some (r0, r1)) : xq_Ct l yX12_must_ wsX12_must_ { frames := 2, cells := 0, slots := 0, locals := 45 } (dC, dI) vwCl (xq_tys cI cB cJ cZ cM) z ad [.ref a_p0, .long p1] [(a_p0, .inr (12, oX12 mmI mmJ mmR)), ((mmR 0), .inl (cI, 1800, .inl mm_tapeF))] [(a_p0, .inr (12, oX12 r0 r1 mmR)), ((mmR 0), .inl (cI, 1800, .inl mm_tapeF))] none := by
  intro sz
  refine Met.ofW (cc := cX12_must_) (maxL := 3) (ret := none) (by decide) rfl ?_
  intro p e s m args below meth c s₁ B hml hv
  obtain ⟨rfl, hsz, hP, hK, hD0, hE, hz⟩ := hv
  have hx := B.exec
  have hb := B.bytes
  have hr := B.returns
  have hts := atoms_spec (ws := wsX12_must_) B.pre
  have hown : s.vm.findClass RX12 = some m.cls := findClass_of_methodNamed B.named
  have hlocks := B.notSynchronized
  subst hsz
  have hD := hD0.self (sz := s.heap.size)
  have hN := xq_Env.of hE hz hD0
  generalize hAe : va_A [(a_p0, .inr (12, oX12 mmI mmJ mmR)), ((mmR 0), .inl (cI, 1800, .inl mm_tapeF))] s.heap.size = A at hD hN ⊢
  have hA : ∀ q : Nat, s.heap.size ≤ q → A q := fun q h => by rw [← hAe]; exact Or.inr h
  clear hAe hD0
  have hS : va_S A s.heap s.heap [] := va_S.rf
  have hl := lv_entry ([.ref a_p0, .long p1]) (n := 3) (Nat.le_of_ble_eq_true rfl)
  rw [lg_entry_eq]
  generalize (lg_sl ([.ref a_p0, .long p1]) ++ List.replicate (3 - (lg_sl ([.ref a_p0, .long p1])).length) Slot.unset).toArray = ls at hl ⊢
  have hl : lv_has ls 3 [(0, .ref a_p0), (1, .long p1)] := hl
  have hw0 := hts (.fieldLink RX12 36 "DistantVoiceModel" "faultKind" "I") (by decide +kernel)
  have hinX12 : ∀ w ∈ wsX120, w ∈ wsX12_must_ := fun w h => List.mem_cons_of_mem _ (List.mem_append_right _ h)
  have hw2 := hts (.fieldLink RX12 23 "DistantVoiceModel" "signAt" "I") (by decide +kernel)
  have b29 : ∀ (mmI_29 : Nat → Int32) (mmJ_29 : Nat → Int64) (ls : Array Slot) (H : Heap) (locs : List Loc), fX12_must__b29 N mm_tapeF (mmI_29, mmJ_29) = some (r0, r1) → va_P (dC, dI) vwCl [(a_p0, .inr (12, oX12 mmI_29 mmJ_29 mmR)), ((mmR 0), .inl (cI, 1800, .inl mm_tapeF))] H → va_D A [(a_p0, .inr (12, oX12 mmI_29 mmJ_29 mmR)), ((mmR 0), .inl (cI, 1800, .inl mm_tapeF))] → va_S A s.heap H locs → lv_has ls 3 [(0, .ref a_p0)] → W p l e (headSpec wsX12_must_ { frames := 2, cells := 0, slots := 0, locals := 45 }).room s m [.ref a_p0, .long p1].toArray below meth c H locs 0 0 (MQ below (xq_Q (dC, dI) vwCl (xq_tys cI cB cJ cZ cM) A [(a_p0, .inr (12, oX12 r0 r1 mmR)), ((mmR 0), .inl (cI, 1800, .inl mm_tapeF))] none) [.ref a_p0, .long p1].toArray s 0 0 A) (F0 m 29 ls []) := by
    intro mmI_29 mmJ_29 ls H locs hf hP hD hS hl
    unfold fX12_must__b29 at hf
    refine lv_aload_n hx hb dX12_must__29 rfl (lv_at hl 0 rfl) ?_
    refine va_get (D := (dC, dI)) (ci := 12) (v := .int (mmI_29 8)) (C := RX12) (T := TX12) (N := 70) hx hb hts hinX12 hown hK hP 0 rfl rfl 8 (by decide) hw0 (fun _ h9 => h9) rfl dX12_must__30 ?_
    refine lv_if_ne (tgt := 40) hx hb dX12_must__33 (by decide) (fun c_ => ?_) (fun c_ => ?_)
    · have hf := xq_neg hf c_
      have e9 := Option.some.inj hf
      have e9_0 : mmI_29 = r0 := congrArg (fun t => t.1) e9
      have e9_1 : mmJ_29 = r1 := congrArg (fun t => t.2) e9
      clear e9 hf
      try clear b29
      subst e9_0
      subst e9_1
      exact xq_vret hx hb hr hlocks hK hP hD hS dX12_must__40
    · have hf := xq_pos hf c_
      refine lv_aload_n hx hb dX12_must__36 rfl (lv_at hl 0 rfl) ?_
      obtain ⟨⟨r_1_0, r_1_1⟩, h_2, hf⟩ := xq_bd_some hf
      refine xq_callV (As := []) (rest := []) (ci := 12) (q0 := 0) ⟨hx, hb, hml, hown, hts⟩ (kX12_ahead l dC dI cI cB cJ cZ cM z ad N a_p0 mmI_29 mmJ_29 mmR mm_tapeF h_2) (cwV 0 hts gX12_must__X12_ahead rfl rfl rfl (by decide +kernel) ⟨Nat.le_of_ble_eq_true rfl, Nat.le_of_ble_eq_true rfl⟩) hN hK hP hD hS hA [0, 1] (by decide) rfl rfl rfl rfl rfl rfl hl.1 rfl (Nat.le_of_ble_eq_true rfl) dX12_must__37 ⟨Nat.zero_le _, Nat.zero_le _⟩ (fun H locs hP hD hS => ?_)
      have hP : va_P (dC, dI) vwCl [(a_p0, .inr (12, oX12 r_1_0 r_1_1 mmR)), ((mmR 0), .inl (cI, 1800, .inl mm_tapeF))] H := hP
      have hD : va_D A [(a_p0, .inr (12, oX12 r_1_0 r_1_1 mmR)), ((mmR 0), .inl (cI, 1800, .inl mm_tapeF))] := hD
      refine W.eq (g2 := F0 m 40 ls []) rfl ?_
      have e9 := Option.some.inj hf
      have e9_0 : r_1_0 = r0 := congrArg (fun t => t.1) e9
      have e9_1 : r_1_1 = r1 := congrArg (fun t => t.2) e9
      clear e9 hf
      try clear b29
      subst e9_0
      subst e9_1
      exact xq_vret hx hb hr hlocks hK hP hD hS dX12_must__40
  unfold fX12_must_ at hf
  refine lv_aload_n hx hb dX12_must__0 rfl (lv_at hl 0 rfl) ?_
  obtain ⟨r_1, h_2, hf⟩ := xq_bd_some hf
  refine xq_callV (As := []) (rest := []) (ci := 12) (q0 := 0) ⟨hx, hb, hml, hown, hts⟩ (kX12_lex l dC dI cI cB cJ cZ cM z ad N a_p0 mmI mmJ mmR h_2) (cwV 0 hts gX12_must__X12_lex rfl rfl rfl (by decide +kernel) ⟨Nat.le_of_ble_eq_true rfl, Nat.le_of_ble_eq_true rfl⟩) hN hK hP hD hS hA [0] (by decide) rfl rfl rfl rfl rfl rfl hl.1 rfl (Nat.le_of_ble_eq_true rfl) dX12_must__1 ⟨Nat.zero_le _, Nat.zero_le _⟩ (fun H locs hP hD hS => ?_)
  have hP : va_P (dC, dI) vwCl [(a_p0, .inr (12, oX12 r_1 mmJ mmR)), ((mmR 0), .inl (cI, 1800, .inl mm_tapeF))] H := hP
  have hD : va_D A [(a_p0, .inr (12, oX12 r_1 mmJ mmR)), ((mmR 0), .inl (cI, 1800, .inl mm_tapeF))] := hD
  refine W.eq (g2 := F0 m 4 ls []) rfl ?_
  refine lv_aload_n hx hb dX12_must__4 rfl (lv_at hl 0 rfl) ?_
  refine va_get (D := (dC, dI)) (ci := 12) (v := .int (r_1 8)) (C := RX12) (T := TX12) (N := 70) hx hb hts hinX12 hown hK hP 0 rfl rfl 8 (by decide) hw0 (fun _ h9 => h9) rfl dX12_must__5 ?_
  refine lv_if_le (tgt := 12) hx hb dX12_must__8 (by decide) (fun c_ => ?_) (fun c_ => ?_)
  · have hf := xq_pos hf c_
    refine lv_aload_n hx hb dX12_must__12 rfl (lv_at hl 0 rfl) ?_
    refine lv_lload_n hx hb dX12_must__13 rfl (lv_at hl 1 rfl) ?_
    obtain ⟨r_3, h_4, hf⟩ := xq_bd_some hf
    refine xq_callV (As := [.long p1]) (rest := []) (ci := 12) (q0 := 0) ⟨hx, hb, hml, hown, hts⟩ (kX12_isWord l dC dI cI cB cJ cZ cM z ad N a_p0 r_1 mmJ mmR p1 h_4) (cwV 1 hts gX12_must__X12_isWord rfl rfl rfl (by decide +kernel) ⟨Nat.le_of_ble_eq_true rfl, Nat.le_of_ble_eq_true rfl⟩) hN hK hP hD hS hA [0] (by decide) rfl rfl rfl rfl rfl rfl hl.1 rfl (Nat.le_of_ble_eq_true rfl) dX12_must__14 ⟨Nat.zero_le _, Nat.zero_le _⟩ (fun H locs hP hD hS => ?_)
    have hP : va_P (dC, dI) vwCl [(a_p0, .inr (12, oX12 r_1 mmJ mmR)), ((mmR 0), .inl (cI, 1800, .inl mm_tapeF))] H := hP
    have hD : va_D A [(a_p0, .inr (12, oX12 r_1 mmJ mmR)), ((mmR 0), .inl (cI, 1800, .inl mm_tapeF))] := hD
    refine W.eq (g2 := F0 m 17 ls [.int r_3]) rfl ?_
    refine lv_if_ne (tgt := 29) hx hb dX12_must__17 (by decide) (fun c_ => ?_) (fun c_ => ?_)
    · have hf := xq_neg hf c_
      exact b29 r_1 mmJ _ _ _ hf hP hD hS (lv_sub hl [0] rfl)
    · have hf := xq_pos hf c_
      refine lv_aload_n hx hb dX12_must__20 rfl (lv_at hl 0 rfl) ?_
      refine lv_iconst (v := 1) hx hb dX12_must__21 (by decide) ?_
      refine lv_aload_n hx hb dX12_must__22 rfl (lv_at hl 0 rfl) ?_
      refine va_get (D := (dC, dI)) (ci := 12) (v := .int (r_1 4)) (C := RX12) (T := TX12) (N := 70) hx hb hts hinX12 hown hK hP 0 rfl rfl 4 (by decide) hw2 (fun _ h9 => h9) rfl dX12_must__23 ?_
      obtain ⟨r_5, h_6, hf⟩ := xq_bd_some hf
      refine xq_callV (As := [.int 1, .int (r_1 4)]) (rest := []) (ci := 12) (q0 := 0) ⟨hx, hb, hml, hown, hts⟩ (kX12_blame l dC dI cI cB cJ cZ cM z ad N a_p0 r_1 mmJ mmR 1 (r_1 4) h_6) (cwV 2 hts gX12_must__X12_blame rfl rfl rfl (by decide +kernel) ⟨Nat.le_of_ble_eq_true rfl, Nat.le_of_ble_eq_true rfl⟩) hN hK hP hD hS hA [0] (by decide) rfl rfl rfl rfl rfl rfl hl.1 rfl (Nat.le_of_ble_eq_true rfl) dX12_must__26 ⟨Nat.zero_le _, Nat.zero_le _⟩ (fun H locs hP hD hS => ?_)
      have hP : va_P (dC, dI) vwCl [(a_p0, .inr (12, oX12 r_5 mmJ mmR)), ((mmR 0), .inl (cI, 1800, .inl mm_tapeF))] H := hP
      have hD : va_D A [(a_p0, .inr (12, oX12 r_5 mmJ mmR)), ((mmR 0), .inl (cI, 1800, .inl mm_tapeF))] := hD
      refine W.eq (g2 := F0 m 29 ls []) rfl ?_
      exact b29 r_5 mmJ _ _ _ hf hP hD hS (lv_sub hl [0] rfl)
  · have hf := xq_neg hf c_
    have e9 := Option.some.inj hf
    have e9_0 : r_1 = r0 := congrArg (fun t => t.1) e9
    have e9_1 : mmJ = r1 := congrArg (fun t => t.2) e9
    clear e9 hf
    try clear b29
    subst e9_0
    subst e9_1
    exact xq_vret hx hb hr hlocks hK hP hD hS dX12_must__11
set_option maxRecDepth 20000 in
theorem ggX12_fresh_X12_lex : GoodIn wsX12_fresh wsX12_lex := goodIn_r _ [9, 10, 11, 12, 13, 8, 14, 1, 15, 67, 68, 69, 70, 71, 72, 73, 74, 75, 76, 77, 78, 79, 80, 81, 82, 83, 84, 85, 86, 87, 88, 89, 90, 91, 92, 93, 94, 95, 96, 97, 98, 99, 100, 101, 102, 103, 104, 105, 106, 107, 108, 109, 110, 111, 112, 113, 114, 115, 116, 117, 118, 119, 120, 121, 122, 123, 124, 125, 126, 127, 128, 129, 130, 131, 132, 133, 134, 135, 136] rfl (by decide +kernel)
set_option maxRecDepth 20000 in
theorem gX12_fresh_X12_lex : GoodIn wsX12_fresh (wsV RX12 244 RX12 yX12_lex wsX12_lex) := goodIn_app (goodIn_of _ (by decide +kernel)) ggX12_fresh_X12_lex
set_option maxRecDepth 20000 in
theorem ggX12_fresh_X12_isOwn : GoodIn wsX12_fresh wsX12_isOwn := goodIn_r _ [19, 20, 21, 22, 23, 24, 25, 26, 27, 28, 29, 30, 31, 32, 33, 34, 35, 36, 37, 38, 39, 40, 41, 42, 43] rfl (by decide +kernel)
set_option maxRecDepth 20000 in
theorem gX12_fresh_X12_isOwn : GoodIn wsX12_fresh (wsV RX12 336 RX12 yX12_isOwn wsX12_isOwn) := goodIn_app (goodIn_of _ (by decide +kernel)) ggX12_fresh_X12_isOwn
set_option maxRecDepth 20000 in
theorem ggX12_fresh_X12_blame : GoodIn wsX12_fresh wsX12_blame := goodIn_r _ [14, 1, 15, 67, 68, 69, 70, 71, 72, 73, 74, 75, 76, 77, 78, 79, 80, 81, 82, 83, 84, 85, 86, 87, 88, 89, 90, 91, 92, 93, 94, 95, 96, 97, 98, 99, 100, 101, 102, 103, 104, 105, 106, 107, 108, 109, 110, 111, 112, 113, 114, 115, 116, 117, 118, 119, 120, 121, 122, 123, 124, 125, 126, 127, 128, 129, 130, 131, 132, 133, 134, 135, 136] rfl (by decide +kernel)
set_option maxRecDepth 20000 in
theorem gX12_fresh_X12_blame : GoodIn wsX12_fresh (wsV RX12 233 RX12 yX12_blame wsX12_blame) := goodIn_app (goodIn_of _ (by decide +kernel)) ggX12_fresh_X12_blame
set_option maxRecDepth 20000 in
theorem ggX12_fresh_X12_isNamed : GoodIn wsX12_fresh wsX12_isNamed := goodIn_r _ [47, 48, 49, 50, 51, 52, 67, 68, 69, 70, 71, 72, 73, 74, 75, 76, 77, 78, 79, 80, 81, 82, 83, 84, 85, 86, 87, 88, 89, 90, 91, 92, 93, 94, 95, 96, 97, 98, 99, 100, 101, 102, 103, 104, 105, 106, 107, 108, 109, 110, 111, 112, 113, 114, 115, 116, 117, 118, 119, 120, 121, 122, 123, 124, 125, 126, 127, 128, 129, 130, 131, 132, 133, 134, 135, 136] rfl (by decide +kernel)
set_option maxRecDepth 20000 in
theorem gX12_fresh_X12_isNamed : GoodIn wsX12_fresh (wsV RX12 339 RX12 yX12_isNamed wsX12_isNamed) := goodIn_app (goodIn_of _ (by decide +kernel)) ggX12_fresh_X12_isNamed
set_option maxRecDepth 20000 in
theorem ggX12_fresh_X12_ahead : GoodIn wsX12_fresh wsX12_ahead := goodIn_r _ [56, 57, 58, 59, 4, 2, 10, 60, 3, 61, 62, 8, 63, 64, 65, 66, 67, 68, 69, 70, 71, 72, 73, 74, 75, 76, 77, 78, 79, 80, 81, 82, 83, 84, 85, 86, 87, 88, 89, 90, 91, 92, 93, 94, 95, 96, 97, 98, 99, 100, 101, 102, 103, 104, 105, 106, 107, 108, 109, 110, 111, 112, 113, 114, 115, 116, 117, 118, 119, 120, 121, 122, 123, 124, 125, 126, 127, 128, 129, 130, 131, 132, 133, 134, 135, 136] rfl (by decide +kernel)
set_option maxRecDepth 20000 in
theorem gX12_fresh_X12_ahead : GoodIn wsX12_fresh (wsV RX12 250 RX12 yX12_ahead wsX12_ahead) := goodIn_app (goodIn_of _ (by decide +kernel)) ggX12_fresh_X12_ahead
def dsX12_fresh_0 : List (Nat × Instr × Nat) := [(0, (.aload_n 0, 1)), (1, (.invokevirtual 244, 3)), (4, (.aload_n 0, 1)), (5, (.getfield 36, 3)), (8, (.ifCond .le 5, 3)), (11, (.lconst 0, 1)), (12, (.lreturn, 1)), (13, (.aload_n 0, 1)), (14, (.getfield 20, 3)), (17, (.iconst 1, 1)), (18, (.if_icmp .ne 14, 3)), (21, (.aload_n 0, 1)), (22, (.aload_n 0, 1)), (23, (.getfield 32, 3)), (26, (.invokevirtual 336, 3)), (29, (.ifCond .eq 12, 3)), (32, (.aload_n 0, 1)), (33, (.iconst 1, 1)), (34, (.aload_n 0, 1)), (35, (.getfield 23, 3)), (38, (.invokevirtual 233, 3)), (41, (.aload_n 0, 1)), (42, (.getfield 36, 3)), (45, (.ifCond .ne 23, 3)), (48, (.aload_n 0, 1)), (49, (.aload_n 0, 1)), (50, (.getfield 32, 3)), (53, (.invokevirtual 339, 3)), (56, (.ifCond .eq 12, 3)), (59, (.aload_n 0, 1)), (60, (.iconst 2, 1)), (61, (.aload_n 0, 1)), (62, (.getfield 23, 3)), (65, (.invokevirtual 233, 3)), (68, (.aload_n 0, 1)), (69, (.getfield 32, 3)), (72, (.lstore_n 1, 1)), (73, (.aload_n 0, 1)), (74, (.getfield 36, 3)), (77, (.ifCond .ne 7, 3)), (80, (.aload_n 0, 1)), (81, (.invokevirtual 250, 3)), (84, (.lload_n 1, 1)), (85, (.lreturn, 1))]
theorem dsX12_fresh_0_ok : (dsX12_fresh_0.all fun q => decide (decode cX12_fresh q.1 = .ok q.2)) = true := by decide +kernel
theorem dX12_fresh_0 : decode cX12_fresh 0 = .ok (.aload_n 0, 1) := of_decide_eq_true (List.all_eq_true.mp dsX12_fresh_0_ok (0, (.aload_n 0, 1)) (List.mem_of_getElem? (i := 0) rfl))
theorem dX12_fresh_1 : decode cX12_fresh 1 = .ok (.invokevirtual 244, 3) := of_decide_eq_true (List.all_eq_true.mp dsX12_fresh_0_ok (1, (.invokevirtual 244, 3)) (List.mem_of_getElem? (i := 1) rfl))
theorem dX12_fresh_4 : decode cX12_fresh 4 = .ok (.aload_n 0, 1) := of_decide_eq_true (List.all_eq_true.mp dsX12_fresh_0_ok (4, (.aload_n 0, 1)) (List.mem_of_getElem? (i := 2) rfl))
theorem dX12_fresh_5 : decode cX12_fresh 5 = .ok (.getfield 36, 3) := of_decide_eq_true (List.all_eq_true.mp dsX12_fresh_0_ok (5, (.getfield 36, 3)) (List.mem_of_getElem? (i := 3) rfl))
theorem dX12_fresh_8 : decode cX12_fresh 8 = .ok (.ifCond .le 5, 3) := of_decide_eq_true (List.all_eq_true.mp dsX12_fresh_0_ok (8, (.ifCond .le 5, 3)) (List.mem_of_getElem? (i := 4) rfl))
theorem dX12_fresh_11 : decode cX12_fresh 11 = .ok (.lconst 0, 1) := of_decide_eq_true (List.all_eq_true.mp dsX12_fresh_0_ok (11, (.lconst 0, 1)) (List.mem_of_getElem? (i := 5) rfl))
theorem dX12_fresh_12 : decode cX12_fresh 12 = .ok (.lreturn, 1) := of_decide_eq_true (List.all_eq_true.mp dsX12_fresh_0_ok (12, (.lreturn, 1)) (List.mem_of_getElem? (i := 6) rfl))
theorem dX12_fresh_13 : decode cX12_fresh 13 = .ok (.aload_n 0, 1) := of_decide_eq_true (List.all_eq_true.mp dsX12_fresh_0_ok (13, (.aload_n 0, 1)) (List.mem_of_getElem? (i := 7) rfl))
theorem dX12_fresh_14 : decode cX12_fresh 14 = .ok (.getfield 20, 3) := of_decide_eq_true (List.all_eq_true.mp dsX12_fresh_0_ok (14, (.getfield 20, 3)) (List.mem_of_getElem? (i := 8) rfl))
theorem dX12_fresh_17 : decode cX12_fresh 17 = .ok (.iconst 1, 1) := of_decide_eq_true (List.all_eq_true.mp dsX12_fresh_0_ok (17, (.iconst 1, 1)) (List.mem_of_getElem? (i := 9) rfl))
theorem dX12_fresh_18 : decode cX12_fresh 18 = .ok (.if_icmp .ne 14, 3) := of_decide_eq_true (List.all_eq_true.mp dsX12_fresh_0_ok (18, (.if_icmp .ne 14, 3)) (List.mem_of_getElem? (i := 10) rfl))
theorem dX12_fresh_21 : decode cX12_fresh 21 = .ok (.aload_n 0, 1) := of_decide_eq_true (List.all_eq_true.mp dsX12_fresh_0_ok (21, (.aload_n 0, 1)) (List.mem_of_getElem? (i := 11) rfl))
theorem dX12_fresh_22 : decode cX12_fresh 22 = .ok (.aload_n 0, 1) := of_decide_eq_true (List.all_eq_true.mp dsX12_fresh_0_ok (22, (.aload_n 0, 1)) (List.mem_of_getElem? (i := 12) rfl))
theorem dX12_fresh_23 : decode cX12_fresh 23 = .ok (.getfield 32, 3) := of_decide_eq_true (List.all_eq_true.mp dsX12_fresh_0_ok (23, (.getfield 32, 3)) (List.mem_of_getElem? (i := 13) rfl))
theorem dX12_fresh_26 : decode cX12_fresh 26 = .ok (.invokevirtual 336, 3) := of_decide_eq_true (List.all_eq_true.mp dsX12_fresh_0_ok (26, (.invokevirtual 336, 3)) (List.mem_of_getElem? (i := 14) rfl))
theorem dX12_fresh_29 : decode cX12_fresh 29 = .ok (.ifCond .eq 12, 3) := of_decide_eq_true (List.all_eq_true.mp dsX12_fresh_0_ok (29, (.ifCond .eq 12, 3)) (List.mem_of_getElem? (i := 15) rfl))
theorem dX12_fresh_32 : decode cX12_fresh 32 = .ok (.aload_n 0, 1) := of_decide_eq_true (List.all_eq_true.mp dsX12_fresh_0_ok (32, (.aload_n 0, 1)) (List.mem_of_getElem? (i := 16) rfl))
theorem dX12_fresh_33 : decode cX12_fresh 33 = .ok (.iconst 1, 1) := of_decide_eq_true (List.all_eq_true.mp dsX12_fresh_0_ok (33, (.iconst 1, 1)) (List.mem_of_getElem? (i := 17) rfl))
theorem dX12_fresh_34 : decode cX12_fresh 34 = .ok (.aload_n 0, 1) := of_decide_eq_true (List.all_eq_true.mp dsX12_fresh_0_ok (34, (.aload_n 0, 1)) (List.mem_of_getElem? (i := 18) rfl))
theorem dX12_fresh_35 : decode cX12_fresh 35 = .ok (.getfield 23, 3) := of_decide_eq_true (List.all_eq_true.mp dsX12_fresh_0_ok (35, (.getfield 23, 3)) (List.mem_of_getElem? (i := 19) rfl))
theorem dX12_fresh_38 : decode cX12_fresh 38 = .ok (.invokevirtual 233, 3) := of_decide_eq_true (List.all_eq_true.mp dsX12_fresh_0_ok (38, (.invokevirtual 233, 3)) (List.mem_of_getElem? (i := 20) rfl))
theorem dX12_fresh_41 : decode cX12_fresh 41 = .ok (.aload_n 0, 1) := of_decide_eq_true (List.all_eq_true.mp dsX12_fresh_0_ok (41, (.aload_n 0, 1)) (List.mem_of_getElem? (i := 21) rfl))
theorem dX12_fresh_42 : decode cX12_fresh 42 = .ok (.getfield 36, 3) := of_decide_eq_true (List.all_eq_true.mp dsX12_fresh_0_ok (42, (.getfield 36, 3)) (List.mem_of_getElem? (i := 22) rfl))
theorem dX12_fresh_45 : decode cX12_fresh 45 = .ok (.ifCond .ne 23, 3) := of_decide_eq_true (List.all_eq_true.mp dsX12_fresh_0_ok (45, (.ifCond .ne 23, 3)) (List.mem_of_getElem? (i := 23) rfl))
theorem dX12_fresh_48 : decode cX12_fresh 48 = .ok (.aload_n 0, 1) := of_decide_eq_true (List.all_eq_true.mp dsX12_fresh_0_ok (48, (.aload_n 0, 1)) (List.mem_of_getElem? (i := 24) rfl))
theorem dX12_fresh_49 : decode cX12_fresh 49 = .ok (.aload_n 0, 1) := of_decide_eq_true (List.all_eq_true.mp dsX12_fresh_0_ok (49, (.aload_n 0, 1)) (List.mem_of_getElem? (i := 25) rfl))
theorem dX12_fresh_50 : decode cX12_fresh 50 = .ok (.getfield 32, 3) := of_decide_eq_true (List.all_eq_true.mp dsX12_fresh_0_ok (50, (.getfield 32, 3)) (List.mem_of_getElem? (i := 26) rfl))
theorem dX12_fresh_53 : decode cX12_fresh 53 = .ok (.invokevirtual 339, 3) := of_decide_eq_true (List.all_eq_true.mp dsX12_fresh_0_ok (53, (.invokevirtual 339, 3)) (List.mem_of_getElem? (i := 27) rfl))
theorem dX12_fresh_56 : decode cX12_fresh 56 = .ok (.ifCond .eq 12, 3) := of_decide_eq_true (List.all_eq_true.mp dsX12_fresh_0_ok (56, (.ifCond .eq 12, 3)) (List.mem_of_getElem? (i := 28) rfl))
theorem dX12_fresh_59 : decode cX12_fresh 59 = .ok (.aload_n 0, 1) := of_decide_eq_true (List.all_eq_true.mp dsX12_fresh_0_ok (59, (.aload_n 0, 1)) (List.mem_of_getElem? (i := 29) rfl))
theorem dX12_fresh_60 : decode cX12_fresh 60 = .ok (.iconst 2, 1) := of_decide_eq_true (List.all_eq_true.mp dsX12_fresh_0_ok (60, (.iconst 2, 1)) (List.mem_of_getElem? (i := 30) rfl))
theorem dX12_fresh_61 : decode cX12_fresh 61 = .ok (.aload_n 0, 1) := of_decide_eq_true (List.all_eq_true.mp dsX12_fresh_0_ok (61, (.aload_n 0, 1)) (List.mem_of_getElem? (i := 31) rfl))
theorem dX12_fresh_62 : decode cX12_fresh 62 = .ok (.getfield 23, 3) := of_decide_eq_true (List.all_eq_true.mp dsX12_fresh_0_ok (62, (.getfield 23, 3)) (List.mem_of_getElem? (i := 32) rfl))
theorem dX12_fresh_65 : decode cX12_fresh 65 = .ok (.invokevirtual 233, 3) := of_decide_eq_true (List.all_eq_true.mp dsX12_fresh_0_ok (65, (.invokevirtual 233, 3)) (List.mem_of_getElem? (i := 33) rfl))
theorem dX12_fresh_68 : decode cX12_fresh 68 = .ok (.aload_n 0, 1) := of_decide_eq_true (List.all_eq_true.mp dsX12_fresh_0_ok (68, (.aload_n 0, 1)) (List.mem_of_getElem? (i := 34) rfl))
theorem dX12_fresh_69 : decode cX12_fresh 69 = .ok (.getfield 32, 3) := of_decide_eq_true (List.all_eq_true.mp dsX12_fresh_0_ok (69, (.getfield 32, 3)) (List.mem_of_getElem? (i := 35) rfl))
theorem dX12_fresh_72 : decode cX12_fresh 72 = .ok (.lstore_n 1, 1) := of_decide_eq_true (List.all_eq_true.mp dsX12_fresh_0_ok (72, (.lstore_n 1, 1)) (List.mem_of_getElem? (i := 36) rfl))
theorem dX12_fresh_73 : decode cX12_fresh 73 = .ok (.aload_n 0, 1) := of_decide_eq_true (List.all_eq_true.mp dsX12_fresh_0_ok (73, (.aload_n 0, 1)) (List.mem_of_getElem? (i := 37) rfl))
theorem dX12_fresh_74 : decode cX12_fresh 74 = .ok (.getfield 36, 3) := of_decide_eq_true (List.all_eq_true.mp dsX12_fresh_0_ok (74, (.getfield 36, 3)) (List.mem_of_getElem? (i := 38) rfl))
theorem dX12_fresh_77 : decode cX12_fresh 77 = .ok (.ifCond .ne 7, 3) := of_decide_eq_true (List.all_eq_true.mp dsX12_fresh_0_ok (77, (.ifCond .ne 7, 3)) (List.mem_of_getElem? (i := 39) rfl))
theorem dX12_fresh_80 : decode cX12_fresh 80 = .ok (.aload_n 0, 1) := of_decide_eq_true (List.all_eq_true.mp dsX12_fresh_0_ok (80, (.aload_n 0, 1)) (List.mem_of_getElem? (i := 40) rfl))
theorem dX12_fresh_81 : decode cX12_fresh 81 = .ok (.invokevirtual 250, 3) := of_decide_eq_true (List.all_eq_true.mp dsX12_fresh_0_ok (81, (.invokevirtual 250, 3)) (List.mem_of_getElem? (i := 41) rfl))
theorem dX12_fresh_84 : decode cX12_fresh 84 = .ok (.lload_n 1, 1) := of_decide_eq_true (List.all_eq_true.mp dsX12_fresh_0_ok (84, (.lload_n 1, 1)) (List.mem_of_getElem? (i := 42) rfl))
theorem dX12_fresh_85 : decode cX12_fresh 85 = .ok (.lreturn, 1) := of_decide_eq_true (List.all_eq_true.mp dsX12_fresh_0_ok (85, (.lreturn, 1)) (List.mem_of_getElem? (i := 43) rfl))
def fX12_fresh_b68 (N : Nat) (mm_earsF : Nat → Int32) (mm_earNameL : Nat → Int64) (mm_placesF : Nat → Int32) (mm_placeNameL : Nat → Int64) (mm_tapeF : Nat → Int32)   : ((Nat → Int32) × (Nat → Int64)) → Option (Int64 × (Nat → Int32) × (Nat → Int64)) :=
  fun (mmI_68, mmJ_68) => (if (mmI_68 8) = 0 then (xq_bd (fX12_ahead N mmI_68 mmJ_68 mm_tapeF) fun (r_1_0, r_1_1) => some ((mmJ_68 7, r_1_0, r_1_1))) else some ((mmJ_68 7, mmI_68, mmJ_68)))
def fX12_fresh_b41 (N : Nat) (mm_earsF : Nat → Int32) (mm_earNameL : Nat → Int64) (mm_placesF : Nat → Int32) (mm_placeNameL : Nat → Int64) (mm_tapeF : Nat → Int32)   : ((Nat → Int32) × (Nat → Int64)) → Option (Int64 × (Nat → Int32) × (Nat → Int64)) :=
  fun (mmI_41, mmJ_41) => (if (mmI_41 8) = 0 then (xq_bd (fX12_isNamed N mmI_41 mm_earsF mm_earNameL mm_placesF mm_placeNameL (mmJ_41 7)) fun r_3 => (if r_3 = 0 then fX12_fresh_b68 N mm_earsF mm_earNameL mm_placesF mm_placeNameL mm_tapeF (mmI_41, mmJ_41) else (xq_bd (fX12_blame N mmI_41 2 (mmI_41 4)) fun r_5 => fX12_fresh_b68 N mm_earsF mm_earNameL mm_placesF mm_placeNameL mm_tapeF (r_5, mmJ_41)))) else fX12_fresh_b68 N mm_earsF mm_earNameL mm_placesF mm_placeNameL mm_tapeF (mmI_41, mmJ_41))
def fX12_fresh_b32 (N : Nat) (mm_earsF : Nat → Int32) (mm_earNameL : Nat → Int64) (mm_placesF : Nat → Int32) (mm_placeNameL : Nat → Int64) (mm_tapeF : Nat → Int32)   : ((Nat → Int32) × (Nat → Int64)) → Option (Int64 × (Nat → Int32) × (Nat → Int64)) :=
  fun (mmI_32, mmJ_32) => (xq_bd (fX12_blame N mmI_32 1 (mmI_32 4)) fun r_7 => fX12_fresh_b41 N mm_earsF mm_earNameL mm_placesF mm_placeNameL mm_tapeF (r_7, mmJ_32))
def fX12_fresh (N : Nat) (mmI : Nat → Int32) (mmJ : Nat → Int64) (mm_earsF : Nat → Int32) (mm_earNameL : Nat → Int64) (mm_placesF : Nat → Int32) (mm_placeNameL : Nat → Int64) (mm_tapeF : Nat → Int32)   : Option (Int64 × (Nat → Int32) × (Nat → Int64)) :=
  (xq_bd (fX12_lex N mmI) fun r_1 => (if (r_1 8) ≤ 0 then (if (r_1 3) = 1 then (xq_bd (fX12_isOwn N (mmJ 7)) fun r_3 => (if r_3 = 0 then fX12_fresh_b41 N mm_earsF mm_earNameL mm_placesF mm_placeNameL mm_tapeF (r_1, mmJ) else fX12_fresh_b32 N mm_earsF mm_earNameL mm_placesF mm_placeNameL mm_tapeF (r_1, mmJ))) else fX12_fresh_b32 N mm_earsF mm_earNameL mm_placesF mm_placeNameL mm_tapeF (r_1, mmJ)) else some ((0, r_1, mmJ))))
set_option maxHeartbeats 4000000 in
set_option maxRecDepth 100000 in
theorem kX12_fresh (l : Launch) (dC : Nat → ClassId) (dI : Nat → Nat → Nat) (cI cB cJ cZ cM : ClassId) (z : Nat) (ad : Nat → Nat) (N : Nat) (a_p0 : Nat) (mmI : Nat → Int32) (mmJ : Nat → Int64) (mmR : Nat → Nat) (mm_earsF : Nat → Int32) (mm_earNameL : Nat → Int64) (mm_placesF : Nat → Int32) (mm_placeNameL : Nat → Int64) (mm_tapeF : Nat → Int32) {r0 : Int64} {r1 : Nat → Int32} {r2 : Nat → Int64} (hf : fX12_fresh N mmI mmJ mm_earsF mm_earNameL mm_placesF mm_placeNameL mm_tapeF = some (r0, r1, r2)) : xq_Ct l yX12_fresh wsX12_fresh { frames := 2, cells := 0, slots := 0, locals := 45 } (dC, dI) vwCl (xq_tys cI cB cJ cZ cM) z ad [.ref a_p0] [(a_p0, .inr (12, oX12 mmI mmJ mmR)), ((mmR 18), .inl (cI, 2, .inl mm_earsF)), ((mmR 28), .inl (cJ, 14, .inr (.inl mm_earNameL))), ((mmR 21), .inl (cI, 2, .inl mm_placesF)), ((mmR 29), .inl (cJ, 12, .inr (.inl mm_placeNameL))), ((mmR 0), .inl (cI, 1800, .inl mm_tapeF))] [(a_p0, .inr (12, oX12 r1 r2 mmR)), ((mmR 18), .inl (cI, 2, .inl mm_earsF)), ((mmR 28), .inl (cJ, 14, .inr (.inl mm_earNameL))), ((mmR 21), .inl (cI, 2, .inl mm_placesF)), ((mmR 29), .inl (cJ, 12, .inr (.inl mm_placeNameL))), ((mmR 0), .inl (cI, 1800, .inl mm_tapeF))] (some (.long r0)) := by
  intro sz
  refine Met.ofW (cc := cX12_fresh) (maxL := 3) (ret := (some .long)) (by decide) rfl ?_
  intro p e s m args below meth c s₁ B hml hv
  obtain ⟨rfl, hsz, hP, hK, hD0, hE, hz⟩ := hv
  have hx := B.exec
  have hb := B.bytes
  have hr := B.returns
  have hts := atoms_spec (ws := wsX12_fresh) B.pre
  have hown : s.vm.findClass RX12 = some m.cls := findClass_of_methodNamed B.named
  have hlocks := B.notSynchronized
  subst hsz
  have hD := hD0.self (sz := s.heap.size)
  have hN := xq_Env.of hE hz hD0
  generalize hAe : va_A [(a_p0, .inr (12, oX12 mmI mmJ mmR)), ((mmR 18), .inl (cI, 2, .inl mm_earsF)), ((mmR 28), .inl (cJ, 14, .inr (.inl mm_earNameL))), ((mmR 21), .inl (cI, 2, .inl mm_placesF)), ((mmR 29), .inl (cJ, 12, .inr (.inl mm_placeNameL))), ((mmR 0), .inl (cI, 1800, .inl mm_tapeF))] s.heap.size = A at hD hN ⊢
  have hA : ∀ q : Nat, s.heap.size ≤ q → A q := fun q h => by rw [← hAe]; exact Or.inr h
  clear hAe hD0
  have hS : va_S A s.heap s.heap [] := va_S.rf
  have hl := lv_entry ([.ref a_p0]) (n := 3) (Nat.le_of_ble_eq_true rfl)
  rw [lg_entry_eq]
  generalize (lg_sl ([.ref a_p0]) ++ List.replicate (3 - (lg_sl ([.ref a_p0])).length) Slot.unset).toArray = ls at hl ⊢
  have hl : lv_has ls 3 [(0, .ref a_p0)] := hl
  have hw0 := hts (.fieldLink RX12 36 "DistantVoiceModel" "faultKind" "I") (by decide +kernel)
  have hinX12 : ∀ w ∈ wsX120, w ∈ wsX12_fresh := fun w h => List.mem_cons_of_mem _ (List.mem_append_right _ h)
  have hw2 := hts (.fieldLink RX12 20 "DistantVoiceModel" "sign" "I") (by decide +kernel)
  have hw3 := hts (.fieldLink RX12 32 "DistantVoiceModel" "word" "J") (by decide +kernel)
  have hw4 := hts (.fieldLink RX12 23 "DistantVoiceModel" "signAt" "I") (by decide +kernel)
  have b68 : ∀ (mmI_68 : Nat → Int32) (mmJ_68 : Nat → Int64) (ls : Array Slot) (H : Heap) (locs : List Loc), fX12_fresh_b68 N mm_earsF mm_earNameL mm_placesF mm_placeNameL mm_tapeF (mmI_68, mmJ_68) = some (r0, r1, r2) → va_P (dC, dI) vwCl [(a_p0, .inr (12, oX12 mmI_68 mmJ_68 mmR)), ((mmR 18), .inl (cI, 2, .inl mm_earsF)), ((mmR 28), .inl (cJ, 14, .inr (.inl mm_earNameL))), ((mmR 21), .inl (cI, 2, .inl mm_placesF)), ((mmR 29), .inl (cJ, 12, .inr (.inl mm_placeNameL))), ((mmR 0), .inl (cI, 1800, .inl mm_tapeF))] H → va_D A [(a_p0, .inr (12, oX12 mmI_68 mmJ_68 mmR)), ((mmR 18), .inl (cI, 2, .inl mm_earsF)), ((mmR 28), .inl (cJ, 14, .inr (.inl mm_earNameL))), ((mmR 21), .inl (cI, 2, .inl mm_placesF)), ((mmR 29), .inl (cJ, 12, .inr (.inl mm_placeNameL))), ((mmR 0), .inl (cI, 1800, .inl mm_tapeF))] → va_S A s.heap H locs → lv_has ls 3 [(0, .ref a_p0)] → W p l e (headSpec wsX12_fresh { frames := 2, cells := 0, slots := 0, locals := 45 }).room s m [.ref a_p0].toArray below meth c H locs 0 0 (MQ below (xq_Q (dC, dI) vwCl (xq_tys cI cB cJ cZ cM) A [(a_p0, .inr (12, oX12 r1 r2 mmR)), ((mmR 18), .inl (cI, 2, .inl mm_earsF)), ((mmR 28), .inl (cJ, 14, .inr (.inl mm_earNameL))), ((mmR 21), .inl (cI, 2, .inl mm_placesF)), ((mmR 29), .inl (cJ, 12, .inr (.inl mm_placeNameL))), ((mmR 0), .inl (cI, 1800, .inl mm_tapeF))] (some (.long r0))) [.ref a_p0].toArray s 0 0 A) (F0 m 68 ls []) := by
    intro mmI_68 mmJ_68 ls H locs hf hP hD hS hl
    unfold fX12_fresh_b68 at hf
    refine lv_aload_n hx hb dX12_fresh_68 rfl (lv_at hl 0 rfl) ?_
    refine va_get (D := (dC, dI)) (ci := 12) (v := .long (mmJ_68 7)) (C := RX12) (T := TX12) (N := 70) hx hb hts hinX12 hown hK hP 0 rfl rfl 7 (by decide) hw3 (fun _ h9 => h9) rfl dX12_fresh_69 ?_
    refine lv_lstore_n (lv' := [(1, .long (mmJ_68 7)), (0, .ref a_p0)]) hx hb dX12_fresh_72 rfl hl (by decide) rfl (fun ls hl => ?_)
    refine lv_aload_n hx hb dX12_fresh_73 rfl (lv_at hl 1 rfl) ?_
    refine va_get (D := (dC, dI)) (ci := 12) (v := .int (mmI_68 8)) (C := RX12) (T := TX12) (N := 70) hx hb hts hinX12 hown hK hP 0 rfl rfl 8 (by decide) hw0 (fun _ h9 => h9) rfl dX12_fresh_74 ?_
    refine lv_if_ne (tgt := 84) hx hb dX12_fresh_77 (by decide) (fun c_ => ?_) (fun c_ => ?_)
    · have hf := xq_neg hf c_
      refine lv_lload_n hx hb dX12_fresh_84 rfl (lv_at hl 0 rfl) ?_
      have e9 := Option.some.inj hf
      have e9_0 : mmJ_68 7 = r0 := congrArg (fun t => t.1) e9
      have e9_1 : mmI_68 = r1 := congrArg (fun t => t.2.1) e9
      have e9_2 : mmJ_68 = r2 := congrArg (fun t => t.2.2) e9
      clear e9 hf
      try clear b32
      try clear b41
      try clear b68
      subst e9_0
      subst e9_1
      subst e9_2
      exact xq_lret hx hb hr hlocks hK hP hD hS dX12_fresh_85
    · have hf := xq_pos hf c_
      refine lv_aload_n hx hb dX12_fresh_80 rfl (lv_at hl 1 rfl) ?_
      obtain ⟨⟨r_1_0, r_1_1⟩, h_2, hf⟩ := xq_bd_some hf
      refine xq_callV (As := []) (rest := []) (ci := 12) (q0 := 0) ⟨hx, hb, hml, hown, hts⟩ (kX12_ahead l dC dI cI cB cJ cZ cM z ad N a_p0 mmI_68 mmJ_68 mmR mm_tapeF h_2) (cwV 0 hts gX12_fresh_X12_ahead rfl rfl rfl (by decide +kernel) ⟨Nat.le_of_ble_eq_true rfl, Nat.le_of_ble_eq_true rfl⟩) hN hK hP hD hS hA [0, 5] (by decide) rfl rfl rfl rfl rfl rfl hl.1 rfl (Nat.le_of_ble_eq_true rfl) dX12_fresh_81 ⟨Nat.zero_le _, Nat.zero_le _⟩ (fun H locs hP hD hS => ?_)
      have hP : va_P (dC, dI) vwCl [(a_p0, .inr (12, oX12 r_1_0 r_1_1 mmR)), ((mmR 18), .inl (cI, 2, .inl mm_earsF)), ((mmR 28), .inl (cJ, 14, .inr (.inl mm_earNameL))), ((mmR 21), .inl (cI, 2, .inl mm_placesF)), ((mmR 29), .inl (cJ, 12, .inr (.inl mm_placeNameL))), ((mmR 0), .inl (cI, 1800, .inl mm_tapeF))] H := hP
      have hD : va_D A [(a_p0, .inr (12, oX12 r_1_0 r_1_1 mmR)), ((mmR 18), .inl (cI, 2, .inl mm_earsF)), ((mmR 28), .inl (cJ, 14, .inr (.inl mm_earNameL))), ((mmR 21), .inl (cI, 2, .inl mm_placesF)), ((mmR 29), .inl (cJ, 12, .inr (.inl mm_placeNameL))), ((mmR 0), .inl (cI, 1800, .inl mm_tapeF))] := hD
      refine W.eq (g2 := F0 m 84 ls []) rfl ?_
      refine lv_lload_n hx hb dX12_fresh_84 rfl (lv_at hl 0 rfl) ?_
      have e9 := Option.some.inj hf
      have e9_0 : mmJ_68 7 = r0 := congrArg (fun t => t.1) e9
      have e9_1 : r_1_0 = r1 := congrArg (fun t => t.2.1) e9
      have e9_2 : r_1_1 = r2 := congrArg (fun t => t.2.2) e9
      clear e9 hf
      try clear b32
      try clear b41
      try clear b68
      subst e9_0
      subst e9_1
      subst e9_2
      exact xq_lret hx hb hr hlocks hK hP hD hS dX12_fresh_85
  have b41 : ∀ (mmI_41 : Nat → Int32) (mmJ_41 : Nat → Int64) (ls : Array Slot) (H : Heap) (locs : List Loc), fX12_fresh_b41 N mm_earsF mm_earNameL mm_placesF mm_placeNameL mm_tapeF (mmI_41, mmJ_41) = some (r0, r1, r2) → va_P (dC, dI) vwCl [(a_p0, .inr (12, oX12 mmI_41 mmJ_41 mmR)), ((mmR 18), .inl (cI, 2, .inl mm_earsF)), ((mmR 28), .inl (cJ, 14, .inr (.inl mm_earNameL))), ((mmR 21), .inl (cI, 2, .inl mm_placesF)), ((mmR 29), .inl (cJ, 12, .inr (.inl mm_placeNameL))), ((mmR 0), .inl (cI, 1800, .inl mm_tapeF))] H → va_D A [(a_p0, .inr (12, oX12 mmI_41 mmJ_41 mmR)), ((mmR 18), .inl (cI, 2, .inl mm_earsF)), ((mmR 28), .inl (cJ, 14, .inr (.inl mm_earNameL))), ((mmR 21), .inl (cI, 2, .inl mm_placesF)), ((mmR 29), .inl (cJ, 12, .inr (.inl mm_placeNameL))), ((mmR 0), .inl (cI, 1800, .inl mm_tapeF))] → va_S A s.heap H locs → lv_has ls 3 [(0, .ref a_p0)] → W p l e (headSpec wsX12_fresh { frames := 2, cells := 0, slots := 0, locals := 45 }).room s m [.ref a_p0].toArray below meth c H locs 0 0 (MQ below (xq_Q (dC, dI) vwCl (xq_tys cI cB cJ cZ cM) A [(a_p0, .inr (12, oX12 r1 r2 mmR)), ((mmR 18), .inl (cI, 2, .inl mm_earsF)), ((mmR 28), .inl (cJ, 14, .inr (.inl mm_earNameL))), ((mmR 21), .inl (cI, 2, .inl mm_placesF)), ((mmR 29), .inl (cJ, 12, .inr (.inl mm_placeNameL))), ((mmR 0), .inl (cI, 1800, .inl mm_tapeF))] (some (.long r0))) [.ref a_p0].toArray s 0 0 A) (F0 m 41 ls []) := by
    intro mmI_41 mmJ_41 ls H locs hf hP hD hS hl
    unfold fX12_fresh_b41 at hf
    refine lv_aload_n hx hb dX12_fresh_41 rfl (lv_at hl 0 rfl) ?_
    refine va_get (D := (dC, dI)) (ci := 12) (v := .int (mmI_41 8)) (C := RX12) (T := TX12) (N := 70) hx hb hts hinX12 hown hK hP 0 rfl rfl 8 (by decide) hw0 (fun _ h9 => h9) rfl dX12_fresh_42 ?_
    refine lv_if_ne (tgt := 68) hx hb dX12_fresh_45 (by decide) (fun c_ => ?_) (fun c_ => ?_)
    · have hf := xq_neg hf c_
      exact b68 mmI_41 mmJ_41 _ _ _ hf hP hD hS (lv_sub hl [0] rfl)
    · have hf := xq_pos hf c_
      refine lv_aload_n hx hb dX12_fresh_48 rfl (lv_at hl 0 rfl) ?_
      refine lv_aload_n hx hb dX12_fresh_49 rfl (lv_at hl 0 rfl) ?_
      refine va_get (D := (dC, dI)) (ci := 12) (v := .long (mmJ_41 7)) (C := RX12) (T := TX12) (N := 70) hx hb hts hinX12 hown hK hP 0 rfl rfl 7 (by decide) hw3 (fun _ h9 => h9) rfl dX12_fresh_50 ?_
      obtain ⟨r_1, h_2, hf⟩ := xq_bd_some hf
      refine xq_callV (As := [.long (mmJ_41 7)]) (rest := []) (ci := 12) (q0 := 0) ⟨hx, hb, hml, hown, hts⟩ (kX12_isNamed l dC dI cI cB cJ cZ cM z ad N a_p0 mmI_41 mmJ_41 mmR mm_earsF mm_earNameL mm_placesF mm_placeNameL (mmJ_41 7) h_2) (cwV 1 hts gX12_fresh_X12_isNamed rfl rfl rfl (by decide +kernel) ⟨Nat.le_of_ble_eq_true rfl, Nat.le_of_ble_eq_true rfl⟩) hN hK hP hD hS hA [0, 1, 2, 3, 4] (by decide) rfl rfl rfl rfl rfl rfl hl.1 rfl (Nat.le_of_ble_eq_true rfl) dX12_fresh_53 ⟨Nat.zero_le _, Nat.zero_le _⟩ (fun H locs hP hD hS => ?_)
      have hP : va_P (dC, dI) vwCl [(a_p0, .inr (12, oX12 mmI_41 mmJ_41 mmR)), ((mmR 18), .inl (cI, 2, .inl mm_earsF)), ((mmR 28), .inl (cJ, 14, .inr (.inl mm_earNameL))), ((mmR 21), .inl (cI, 2, .inl mm_placesF)), ((mmR 29), .inl (cJ, 12, .inr (.inl mm_placeNameL))), ((mmR 0), .inl (cI, 1800, .inl mm_tapeF))] H := hP
      have hD : va_D A [(a_p0, .inr (12, oX12 mmI_41 mmJ_41 mmR)), ((mmR 18), .inl (cI, 2, .inl mm_earsF)), ((mmR 28), .inl (cJ, 14, .inr (.inl mm_earNameL))), ((mmR 21), .inl (cI, 2, .inl mm_placesF)), ((mmR 29), .inl (cJ, 12, .inr (.inl mm_placeNameL))), ((mmR 0), .inl (cI, 1800, .inl mm_tapeF))] := hD
      refine W.eq (g2 := F0 m 56 ls [.int r_1]) rfl ?_
      refine lv_if_eq (tgt := 68) hx hb dX12_fresh_56 (by decide) (fun c_ => ?_) (fun c_ => ?_)
      · have hf := xq_pos hf c_
        exact b68 mmI_41 mmJ_41 _ _ _ hf hP hD hS (lv_sub hl [0] rfl)
      · have hf := xq_neg hf c_
        refine lv_aload_n hx hb dX12_fresh_59 rfl (lv_at hl 0 rfl) ?_
        refine lv_iconst (v := 2) hx hb dX12_fresh_60 (by decide) ?_
        refine lv_aload_n hx hb dX12_fresh_61 rfl (lv_at hl 0 rfl) ?_
        refine va_get (D := (dC, dI)) (ci := 12) (v := .int (mmI_41 4)) (C := RX12) (T := TX12) (N := 70) hx hb hts hinX12 hown hK hP 0 rfl rfl 4 (by decide) hw4 (fun _ h9 => h9) rfl dX12_fresh_62 ?_
        obtain ⟨r_3, h_4, hf⟩ := xq_bd_some hf
        refine xq_callV (As := [.int 2, .int (mmI_41 4)]) (rest := []) (ci := 12) (q0 := 0) ⟨hx, hb, hml, hown, hts⟩ (kX12_blame l dC dI cI cB cJ cZ cM z ad N a_p0 mmI_41 mmJ_41 mmR 2 (mmI_41 4) h_4) (cwV 2 hts gX12_fresh_X12_blame rfl rfl rfl (by decide +kernel) ⟨Nat.le_of_ble_eq_true rfl, Nat.le_of_ble_eq_true rfl⟩) hN hK hP hD hS hA [0] (by decide) rfl rfl rfl rfl rfl rfl hl.1 rfl (Nat.le_of_ble_eq_true rfl) dX12_fresh_65 ⟨Nat.zero_le _, Nat.zero_le _⟩ (fun H locs hP hD hS => ?_)
        have hP : va_P (dC, dI) vwCl [(a_p0, .inr (12, oX12 r_3 mmJ_41 mmR)), ((mmR 18), .inl (cI, 2, .inl mm_earsF)), ((mmR 28), .inl (cJ, 14, .inr (.inl mm_earNameL))), ((mmR 21), .inl (cI, 2, .inl mm_placesF)), ((mmR 29), .inl (cJ, 12, .inr (.inl mm_placeNameL))), ((mmR 0), .inl (cI, 1800, .inl mm_tapeF))] H := hP
        have hD : va_D A [(a_p0, .inr (12, oX12 r_3 mmJ_41 mmR)), ((mmR 18), .inl (cI, 2, .inl mm_earsF)), ((mmR 28), .inl (cJ, 14, .inr (.inl mm_earNameL))), ((mmR 21), .inl (cI, 2, .inl mm_placesF)), ((mmR 29), .inl (cJ, 12, .inr (.inl mm_placeNameL))), ((mmR 0), .inl (cI, 1800, .inl mm_tapeF))] := hD
        refine W.eq (g2 := F0 m 68 ls []) rfl ?_
        exact b68 r_3 mmJ_41 _ _ _ hf hP hD hS (lv_sub hl [0] rfl)
  have b32 : ∀ (mmI_32 : Nat → Int32) (mmJ_32 : Nat → Int64) (ls : Array Slot) (H : Heap) (locs : List Loc), fX12_fresh_b32 N mm_earsF mm_earNameL mm_placesF mm_placeNameL mm_tapeF (mmI_32, mmJ_32) = some (r0, r1, r2) → va_P (dC, dI) vwCl [(a_p0, .inr (12, oX12 mmI_32 mmJ_32 mmR)), ((mmR 18), .inl (cI, 2, .inl mm_earsF)), ((mmR 28), .inl (cJ, 14, .inr (.inl mm_earNameL))), ((mmR 21), .inl (cI, 2, .inl mm_placesF)), ((mmR 29), .inl (cJ, 12, .inr (.inl mm_placeNameL))), ((mmR 0), .inl (cI, 1800, .inl mm_tapeF))] H → va_D A [(a_p0, .inr (12, oX12 mmI_32 mmJ_32 mmR)), ((mmR 18), .inl (cI, 2, .inl mm_earsF)), ((mmR 28), .inl (cJ, 14, .inr (.inl mm_earNameL))), ((mmR 21), .inl (cI, 2, .inl mm_placesF)), ((mmR 29), .inl (cJ, 12, .inr (.inl mm_placeNameL))), ((mmR 0), .inl (cI, 1800, .inl mm_tapeF))] → va_S A s.heap H locs → lv_has ls 3 [(0, .ref a_p0)] → W p l e (headSpec wsX12_fresh { frames := 2, cells := 0, slots := 0, locals := 45 }).room s m [.ref a_p0].toArray below meth c H locs 0 0 (MQ below (xq_Q (dC, dI) vwCl (xq_tys cI cB cJ cZ cM) A [(a_p0, .inr (12, oX12 r1 r2 mmR)), ((mmR 18), .inl (cI, 2, .inl mm_earsF)), ((mmR 28), .inl (cJ, 14, .inr (.inl mm_earNameL))), ((mmR 21), .inl (cI, 2, .inl mm_placesF)), ((mmR 29), .inl (cJ, 12, .inr (.inl mm_placeNameL))), ((mmR 0), .inl (cI, 1800, .inl mm_tapeF))] (some (.long r0))) [.ref a_p0].toArray s 0 0 A) (F0 m 32 ls []) := by
    intro mmI_32 mmJ_32 ls H locs hf hP hD hS hl
    unfold fX12_fresh_b32 at hf
    refine lv_aload_n hx hb dX12_fresh_32 rfl (lv_at hl 0 rfl) ?_
    refine lv_iconst (v := 1) hx hb dX12_fresh_33 (by decide) ?_
    refine lv_aload_n hx hb dX12_fresh_34 rfl (lv_at hl 0 rfl) ?_
    refine va_get (D := (dC, dI)) (ci := 12) (v := .int (mmI_32 4)) (C := RX12) (T := TX12) (N := 70) hx hb hts hinX12 hown hK hP 0 rfl rfl 4 (by decide) hw4 (fun _ h9 => h9) rfl dX12_fresh_35 ?_
    obtain ⟨r_1, h_2, hf⟩ := xq_bd_some hf
    refine xq_callV (As := [.int 1, .int (mmI_32 4)]) (rest := []) (ci := 12) (q0 := 0) ⟨hx, hb, hml, hown, hts⟩ (kX12_blame l dC dI cI cB cJ cZ cM z ad N a_p0 mmI_32 mmJ_32 mmR 1 (mmI_32 4) h_2) (cwV 2 hts gX12_fresh_X12_blame rfl rfl rfl (by decide +kernel) ⟨Nat.le_of_ble_eq_true rfl, Nat.le_of_ble_eq_true rfl⟩) hN hK hP hD hS hA [0] (by decide) rfl rfl rfl rfl rfl rfl hl.1 rfl (Nat.le_of_ble_eq_true rfl) dX12_fresh_38 ⟨Nat.zero_le _, Nat.zero_le _⟩ (fun H locs hP hD hS => ?_)
    have hP : va_P (dC, dI) vwCl [(a_p0, .inr (12, oX12 r_1 mmJ_32 mmR)), ((mmR 18), .inl (cI, 2, .inl mm_earsF)), ((mmR 28), .inl (cJ, 14, .inr (.inl mm_earNameL))), ((mmR 21), .inl (cI, 2, .inl mm_placesF)), ((mmR 29), .inl (cJ, 12, .inr (.inl mm_placeNameL))), ((mmR 0), .inl (cI, 1800, .inl mm_tapeF))] H := hP
    have hD : va_D A [(a_p0, .inr (12, oX12 r_1 mmJ_32 mmR)), ((mmR 18), .inl (cI, 2, .inl mm_earsF)), ((mmR 28), .inl (cJ, 14, .inr (.inl mm_earNameL))), ((mmR 21), .inl (cI, 2, .inl mm_placesF)), ((mmR 29), .inl (cJ, 12, .inr (.inl mm_placeNameL))), ((mmR 0), .inl (cI, 1800, .inl mm_tapeF))] := hD
    refine W.eq (g2 := F0 m 41 ls []) rfl ?_
    exact b41 r_1 mmJ_32 _ _ _ hf hP hD hS (lv_sub hl [0] rfl)
  unfold fX12_fresh at hf
  refine lv_aload_n hx hb dX12_fresh_0 rfl (lv_at hl 0 rfl) ?_
  obtain ⟨r_1, h_2, hf⟩ := xq_bd_some hf
  refine xq_callV (As := []) (rest := []) (ci := 12) (q0 := 0) ⟨hx, hb, hml, hown, hts⟩ (kX12_lex l dC dI cI cB cJ cZ cM z ad N a_p0 mmI mmJ mmR h_2) (cwV 0 hts gX12_fresh_X12_lex rfl rfl rfl (by decide +kernel) ⟨Nat.le_of_ble_eq_true rfl, Nat.le_of_ble_eq_true rfl⟩) hN hK hP hD hS hA [0] (by decide) rfl rfl rfl rfl rfl rfl hl.1 rfl (Nat.le_of_ble_eq_true rfl) dX12_fresh_1 ⟨Nat.zero_le _, Nat.zero_le _⟩ (fun H locs hP hD hS => ?_)
  have hP : va_P (dC, dI) vwCl [(a_p0, .inr (12, oX12 r_1 mmJ mmR)), ((mmR 18), .inl (cI, 2, .inl mm_earsF)), ((mmR 28), .inl (cJ, 14, .inr (.inl mm_earNameL))), ((mmR 21), .inl (cI, 2, .inl mm_placesF)), ((mmR 29), .inl (cJ, 12, .inr (.inl mm_placeNameL))), ((mmR 0), .inl (cI, 1800, .inl mm_tapeF))] H := hP
  have hD : va_D A [(a_p0, .inr (12, oX12 r_1 mmJ mmR)), ((mmR 18), .inl (cI, 2, .inl mm_earsF)), ((mmR 28), .inl (cJ, 14, .inr (.inl mm_earNameL))), ((mmR 21), .inl (cI, 2, .inl mm_placesF)), ((mmR 29), .inl (cJ, 12, .inr (.inl mm_placeNameL))), ((mmR 0), .inl (cI, 1800, .inl mm_tapeF))] := hD
  refine W.eq (g2 := F0 m 4 ls []) rfl ?_
  refine lv_aload_n hx hb dX12_fresh_4 rfl (lv_at hl 0 rfl) ?_
  refine va_get (D := (dC, dI)) (ci := 12) (v := .int (r_1 8)) (C := RX12) (T := TX12) (N := 70) hx hb hts hinX12 hown hK hP 0 rfl rfl 8 (by decide) hw0 (fun _ h9 => h9) rfl dX12_fresh_5 ?_
  refine lv_if_le (tgt := 13) hx hb dX12_fresh_8 (by decide) (fun c_ => ?_) (fun c_ => ?_)
  · have hf := xq_pos hf c_
    refine lv_aload_n hx hb dX12_fresh_13 rfl (lv_at hl 0 rfl) ?_
    refine va_get (D := (dC, dI)) (ci := 12) (v := .int (r_1 3)) (C := RX12) (T := TX12) (N := 70) hx hb hts hinX12 hown hK hP 0 rfl rfl 3 (by decide) hw2 (fun _ h9 => h9) rfl dX12_fresh_14 ?_
    refine lv_iconst (v := 1) hx hb dX12_fresh_17 (by decide) ?_
    refine lv_icmp_ne (tgt := 32) hx hb dX12_fresh_18 (by decide) (fun c_ => ?_) (fun c_ => ?_)
    · have hf := xq_neg hf c_
      exact b32 r_1 mmJ _ _ _ hf hP hD hS (lv_sub hl [0] rfl)
    · have hf := xq_pos hf c_
      refine lv_aload_n hx hb dX12_fresh_21 rfl (lv_at hl 0 rfl) ?_
      refine lv_aload_n hx hb dX12_fresh_22 rfl (lv_at hl 0 rfl) ?_
      refine va_get (D := (dC, dI)) (ci := 12) (v := .long (mmJ 7)) (C := RX12) (T := TX12) (N := 70) hx hb hts hinX12 hown hK hP 0 rfl rfl 7 (by decide) hw3 (fun _ h9 => h9) rfl dX12_fresh_23 ?_
      obtain ⟨r_3, h_4, hf⟩ := xq_bd_some hf
      refine xq_callV (As := [.long (mmJ 7)]) (rest := []) (ci := 12) (q0 := 0) ⟨hx, hb, hml, hown, hts⟩ (kX12_isOwn l dC dI cI cB cJ cZ cM z ad N (mmJ 7) a_p0 h_4) (cwV 1 hts gX12_fresh_X12_isOwn rfl rfl rfl (by decide +kernel) ⟨Nat.le_of_ble_eq_true rfl, Nat.le_of_ble_eq_true rfl⟩) hN hK hP hD hS hA [] (by decide) rfl rfl rfl rfl rfl rfl hl.1 rfl (Nat.le_of_ble_eq_true rfl) dX12_fresh_26 ⟨Nat.zero_le _, Nat.zero_le _⟩ (fun H locs hP hD hS => ?_)
      have hP : va_P (dC, dI) vwCl [(a_p0, .inr (12, oX12 r_1 mmJ mmR)), ((mmR 18), .inl (cI, 2, .inl mm_earsF)), ((mmR 28), .inl (cJ, 14, .inr (.inl mm_earNameL))), ((mmR 21), .inl (cI, 2, .inl mm_placesF)), ((mmR 29), .inl (cJ, 12, .inr (.inl mm_placeNameL))), ((mmR 0), .inl (cI, 1800, .inl mm_tapeF))] H := hP
      have hD : va_D A [(a_p0, .inr (12, oX12 r_1 mmJ mmR)), ((mmR 18), .inl (cI, 2, .inl mm_earsF)), ((mmR 28), .inl (cJ, 14, .inr (.inl mm_earNameL))), ((mmR 21), .inl (cI, 2, .inl mm_placesF)), ((mmR 29), .inl (cJ, 12, .inr (.inl mm_placeNameL))), ((mmR 0), .inl (cI, 1800, .inl mm_tapeF))] := hD
      refine W.eq (g2 := F0 m 29 ls [.int r_3]) rfl ?_
      refine lv_if_eq (tgt := 41) hx hb dX12_fresh_29 (by decide) (fun c_ => ?_) (fun c_ => ?_)
      · have hf := xq_pos hf c_
        exact b41 r_1 mmJ _ _ _ hf hP hD hS (lv_sub hl [0] rfl)
      · have hf := xq_neg hf c_
        exact b32 r_1 mmJ _ _ _ hf hP hD hS (lv_sub hl [0] rfl)
  · have hf := xq_neg hf c_
    refine lv_lconst (v := 0) hx hb dX12_fresh_11 (by decide) ?_
    have e9 := Option.some.inj hf
    have e9_0 : 0 = r0 := congrArg (fun t => t.1) e9
    have e9_1 : r_1 = r1 := congrArg (fun t => t.2.1) e9
    have e9_2 : mmJ = r2 := congrArg (fun t => t.2.2) e9
    clear e9 hf
    try clear b32
    try clear b41
    try clear b68
    subst e9_0
    subst e9_1
    subst e9_2
    exact xq_lret hx hb hr hlocks hK hP hD hS dX12_fresh_12
set_option maxRecDepth 20000 in
theorem ggX12_telling_X12_isCounted : GoodIn wsX12_telling wsX12_isCounted := goodIn_r _ [5, 6, 7, 8, 9, 10, 4, 11, 12, 13, 14, 15, 16, 17, 18, 19, 20, 21, 22, 23, 24, 25, 26, 27, 28, 29, 41, 42, 43, 44, 45, 46, 47, 48, 49, 50, 51, 52, 53, 54, 55, 56, 57, 58, 59, 60, 61, 62, 63, 64, 65, 66, 67, 68, 69, 70, 71, 72, 73, 74, 75, 76, 77, 78, 79, 80, 81, 82, 83, 84, 85, 86, 87, 88, 89, 90, 91, 92, 93, 94, 95, 96, 97, 98, 99, 100, 101, 102, 103, 104, 105, 106, 107, 108, 109, 110] rfl (by decide +kernel)
set_option maxRecDepth 20000 in
theorem gX12_telling_X12_isCounted : GoodIn wsX12_telling (wsV RX12 342 RX12 yX12_isCounted wsX12_isCounted) := goodIn_app (goodIn_of _ (by decide +kernel)) ggX12_telling_X12_isCounted
set_option maxRecDepth 20000 in
theorem ggX12_telling_X12_number : GoodIn wsX12_telling wsX12_number := goodIn_r _ [33, 6, 20, 7, 22, 34, 35, 36, 4, 37, 21, 8, 9, 10, 11, 12, 38, 39, 40, 13, 14, 15, 16, 17, 18, 19, 23, 24, 25, 26, 27, 28, 29, 41, 42, 43, 44, 45, 46, 47, 48, 49, 50, 51, 52, 53, 54, 55, 56, 57, 58, 59, 60, 61, 62, 63, 64, 65, 66, 67, 68, 69, 70, 71, 72, 73, 74, 75, 76, 77, 78, 79, 80, 81, 82, 83, 84, 85, 86, 87, 88, 89, 90, 91, 92, 93, 94, 95, 96, 97, 98, 99, 100, 101, 102, 103, 104, 105, 106, 107, 108, 109, 110] rfl (by decide +kernel)
set_option maxRecDepth 20000 in
theorem gX12_telling_X12_number : GoodIn wsX12_telling (wsV RX12 346 RX12 yX12_number wsX12_number) := goodIn_app (goodIn_of _ (by decide +kernel)) ggX12_telling_X12_number
def dsX12_telling_0 : List (Nat × Instr × Nat) := [(0, (.aload_n 0, 1)), (1, (.iconst 0, 1)), (2, (.invokevirtual 342, 3)), (5, (.ifCond .ne 5, 3)), (8, (.iconst 0, 1)), (9, (.ireturn, 1)), (10, (.aload_n 0, 1)), (11, (.iconst 0, 1)), (12, (.iload_n 1, 1)), (13, (.invokevirtual 346, 3)), (16, (.ireturn, 1))]
theorem dsX12_telling_0_ok : (dsX12_telling_0.all fun q => decide (decode cX12_telling q.1 = .ok q.2)) = true := by decide +kernel
theorem dX12_telling_0 : decode cX12_telling 0 = .ok (.aload_n 0, 1) := of_decide_eq_true (List.all_eq_true.mp dsX12_telling_0_ok (0, (.aload_n 0, 1)) (List.mem_of_getElem? (i := 0) rfl))
theorem dX12_telling_1 : decode cX12_telling 1 = .ok (.iconst 0, 1) := of_decide_eq_true (List.all_eq_true.mp dsX12_telling_0_ok (1, (.iconst 0, 1)) (List.mem_of_getElem? (i := 1) rfl))
theorem dX12_telling_2 : decode cX12_telling 2 = .ok (.invokevirtual 342, 3) := of_decide_eq_true (List.all_eq_true.mp dsX12_telling_0_ok (2, (.invokevirtual 342, 3)) (List.mem_of_getElem? (i := 2) rfl))
theorem dX12_telling_5 : decode cX12_telling 5 = .ok (.ifCond .ne 5, 3) := of_decide_eq_true (List.all_eq_true.mp dsX12_telling_0_ok (5, (.ifCond .ne 5, 3)) (List.mem_of_getElem? (i := 3) rfl))
theorem dX12_telling_8 : decode cX12_telling 8 = .ok (.iconst 0, 1) := of_decide_eq_true (List.all_eq_true.mp dsX12_telling_0_ok (8, (.iconst 0, 1)) (List.mem_of_getElem? (i := 4) rfl))
theorem dX12_telling_9 : decode cX12_telling 9 = .ok (.ireturn, 1) := of_decide_eq_true (List.all_eq_true.mp dsX12_telling_0_ok (9, (.ireturn, 1)) (List.mem_of_getElem? (i := 5) rfl))
theorem dX12_telling_10 : decode cX12_telling 10 = .ok (.aload_n 0, 1) := of_decide_eq_true (List.all_eq_true.mp dsX12_telling_0_ok (10, (.aload_n 0, 1)) (List.mem_of_getElem? (i := 6) rfl))
theorem dX12_telling_11 : decode cX12_telling 11 = .ok (.iconst 0, 1) := of_decide_eq_true (List.all_eq_true.mp dsX12_telling_0_ok (11, (.iconst 0, 1)) (List.mem_of_getElem? (i := 7) rfl))
theorem dX12_telling_12 : decode cX12_telling 12 = .ok (.iload_n 1, 1) := of_decide_eq_true (List.all_eq_true.mp dsX12_telling_0_ok (12, (.iload_n 1, 1)) (List.mem_of_getElem? (i := 8) rfl))
theorem dX12_telling_13 : decode cX12_telling 13 = .ok (.invokevirtual 346, 3) := of_decide_eq_true (List.all_eq_true.mp dsX12_telling_0_ok (13, (.invokevirtual 346, 3)) (List.mem_of_getElem? (i := 9) rfl))
theorem dX12_telling_16 : decode cX12_telling 16 = .ok (.ireturn, 1) := of_decide_eq_true (List.all_eq_true.mp dsX12_telling_0_ok (16, (.ireturn, 1)) (List.mem_of_getElem? (i := 10) rfl))
def fX12_telling (N : Nat) (mmI : Nat → Int32) (mmJ : Nat → Int64) (mm_tapeF : Nat → Int32)  (p1 : Int32) : Option (Int32 × (Nat → Int32) × (Nat → Int64)) :=
  (xq_bd (fX12_isCounted N mmI mmJ mm_tapeF 0) fun (r_1_0, r_1_1, r_1_2) => (if r_1_0 = 0 then some ((0, r_1_1, r_1_2)) else (xq_bd (fX12_number N r_1_1 r_1_2 mm_tapeF 0 p1) fun (r_3_0, r_3_1, r_3_2) => some ((r_3_0, r_3_1, r_3_2)))))
set_option maxHeartbeats 4000000 in
set_option maxRecDepth 100000 in
theorem kX12_telling (l : Launch) (dC : Nat → ClassId) (dI : Nat → Nat → Nat) (cI cB cJ cZ cM : ClassId) (z : Nat) (ad : Nat → Nat) (N : Nat) (a_p0 : Nat) (mmI : Nat → Int32) (mmJ : Nat → Int64) (mmR : Nat → Nat) (mm_tapeF : Nat → Int32) (p1 : Int32) {r0 : Int32} {r1 : Nat → Int32} {r2 : Nat → Int64} (hf : fX12_telling N mmI mmJ mm_tapeF p1 = some (r0, r1, r2)) : xq_Ct l yX12_telling wsX12_telling { frames := 3, cells := 0, slots := 0, locals := 68 } (dC, dI) vwCl (xq_tys cI cB cJ cZ cM) z ad [.ref a_p0, .int p1] [(a_p0, .inr (12, oX12 mmI mmJ mmR)), ((mmR 0), .inl (cI, 1800, .inl mm_tapeF))] [(a_p0, .inr (12, oX12 r1 r2 mmR)), ((mmR 0), .inl (cI, 1800, .inl mm_tapeF))] (some (.int r0)) := by
  intro sz
  refine Met.ofW (cc := cX12_telling) (maxL := 2) (ret := (some .int)) (by decide) rfl ?_
  intro p e s m args below meth c s₁ B hml hv
  obtain ⟨rfl, hsz, hP, hK, hD0, hE, hz⟩ := hv
  have hx := B.exec
  have hb := B.bytes
  have hr := B.returns
  have hts := atoms_spec (ws := wsX12_telling) B.pre
  have hown : s.vm.findClass RX12 = some m.cls := findClass_of_methodNamed B.named
  have hlocks := B.notSynchronized
  subst hsz
  have hD := hD0.self (sz := s.heap.size)
  have hN := xq_Env.of hE hz hD0
  generalize hAe : va_A [(a_p0, .inr (12, oX12 mmI mmJ mmR)), ((mmR 0), .inl (cI, 1800, .inl mm_tapeF))] s.heap.size = A at hD hN ⊢
  have hA : ∀ q : Nat, s.heap.size ≤ q → A q := fun q h => by rw [← hAe]; exact Or.inr h
  clear hAe hD0
  have hS : va_S A s.heap s.heap [] := va_S.rf
  have hl := lv_entry ([.ref a_p0, .int p1]) (n := 2) (Nat.le_of_ble_eq_true rfl)
  rw [lg_entry_eq]
  generalize (lg_sl ([.ref a_p0, .int p1]) ++ List.replicate (2 - (lg_sl ([.ref a_p0, .int p1])).length) Slot.unset).toArray = ls at hl ⊢
  have hl : lv_has ls 2 [(0, .ref a_p0), (1, .int p1)] := hl
  unfold fX12_telling at hf
  refine lv_aload_n hx hb dX12_telling_0 rfl (lv_at hl 0 rfl) ?_
  refine lv_iconst (v := 0) hx hb dX12_telling_1 (by decide) ?_
  obtain ⟨⟨r_1_0, r_1_1, r_1_2⟩, h_2, hf⟩ := xq_bd_some hf
  refine xq_callV (As := [.int 0]) (rest := []) (ci := 12) (q0 := 0) ⟨hx, hb, hml, hown, hts⟩ (kX12_isCounted l dC dI cI cB cJ cZ cM z ad N a_p0 mmI mmJ mmR mm_tapeF 0 h_2) (cwV 1 hts gX12_telling_X12_isCounted rfl rfl rfl (by decide +kernel) ⟨Nat.le_of_ble_eq_true rfl, Nat.le_of_ble_eq_true rfl⟩) hN hK hP hD hS hA [0, 1] (by decide) rfl rfl rfl rfl rfl rfl hl.1 rfl (Nat.le_of_ble_eq_true rfl) dX12_telling_2 ⟨Nat.zero_le _, Nat.zero_le _⟩ (fun H locs hP hD hS => ?_)
  have hP : va_P (dC, dI) vwCl [(a_p0, .inr (12, oX12 r_1_1 r_1_2 mmR)), ((mmR 0), .inl (cI, 1800, .inl mm_tapeF))] H := hP
  have hD : va_D A [(a_p0, .inr (12, oX12 r_1_1 r_1_2 mmR)), ((mmR 0), .inl (cI, 1800, .inl mm_tapeF))] := hD
  refine W.eq (g2 := F0 m 5 ls [.int r_1_0]) rfl ?_
  refine lv_if_ne (tgt := 10) hx hb dX12_telling_5 (by decide) (fun c_ => ?_) (fun c_ => ?_)
  · have hf := xq_neg hf c_
    refine lv_aload_n hx hb dX12_telling_10 rfl (lv_at hl 0 rfl) ?_
    refine lv_iconst (v := 0) hx hb dX12_telling_11 (by decide) ?_
    refine lv_iload_n hx hb dX12_telling_12 rfl (lv_at hl 1 rfl) ?_
    obtain ⟨⟨r_3_0, r_3_1, r_3_2⟩, h_4, hf⟩ := xq_bd_some hf
    refine xq_callV (As := [.int 0, .int p1]) (rest := []) (ci := 12) (q0 := 0) ⟨hx, hb, hml, hown, hts⟩ (kX12_number l dC dI cI cB cJ cZ cM z ad N a_p0 r_1_1 r_1_2 mmR mm_tapeF 0 p1 h_4) (cwV 2 hts gX12_telling_X12_number rfl rfl rfl (by decide +kernel) ⟨Nat.le_of_ble_eq_true rfl, Nat.le_of_ble_eq_true rfl⟩) hN hK hP hD hS hA [0, 1] (by decide) rfl rfl rfl rfl rfl rfl hl.1 rfl (Nat.le_of_ble_eq_true rfl) dX12_telling_13 ⟨Nat.zero_le _, Nat.zero_le _⟩ (fun H locs hP hD hS => ?_)
    have hP : va_P (dC, dI) vwCl [(a_p0, .inr (12, oX12 r_3_1 r_3_2 mmR)), ((mmR 0), .inl (cI, 1800, .inl mm_tapeF))] H := hP
    have hD : va_D A [(a_p0, .inr (12, oX12 r_3_1 r_3_2 mmR)), ((mmR 0), .inl (cI, 1800, .inl mm_tapeF))] := hD
    refine W.eq (g2 := F0 m 16 ls [.int r_3_0]) rfl ?_
    have e9 := Option.some.inj hf
    have e9_0 : r_3_0 = r0 := congrArg (fun t => t.1) e9
    have e9_1 : r_3_1 = r1 := congrArg (fun t => t.2.1) e9
    have e9_2 : r_3_2 = r2 := congrArg (fun t => t.2.2) e9
    clear e9 hf
    subst e9_0
    subst e9_1
    subst e9_2
    exact xq_iret hx hb hr hlocks hK hP hD hS dX12_telling_16
  · have hf := xq_pos hf c_
    refine lv_iconst (v := 0) hx hb dX12_telling_8 (by decide) ?_
    have e9 := Option.some.inj hf
    have e9_0 : 0 = r0 := congrArg (fun t => t.1) e9
    have e9_1 : r_1_1 = r1 := congrArg (fun t => t.2.1) e9
    have e9_2 : r_1_2 = r2 := congrArg (fun t => t.2.2) e9
    clear e9 hf
    subst e9_0
    subst e9_1
    subst e9_2
    exact xq_iret hx hb hr hlocks hK hP hD hS dX12_telling_9
set_option maxRecDepth 20000 in
theorem ggX12_rounding_X12_must_ : GoodIn wsX12_rounding wsX12_must_ := goodIn_r _ [8, 9, 10, 11, 12, 13, 7, 14, 15, 16, 17, 18, 19, 20, 21, 22, 23, 24, 25, 26, 27, 28, 29, 30, 31, 32, 33, 34, 35, 36, 37, 38, 39, 40, 48, 49, 50, 51, 52, 53, 54, 55, 56, 57, 58, 59, 60, 61, 62, 63, 64, 65, 66, 67, 68, 69, 70, 71, 72, 73, 74, 75, 76, 77, 78, 79, 80, 81, 82, 83, 84, 85, 86, 87, 88, 89, 90, 91, 92, 93, 94, 95, 96, 97, 98, 99, 100, 101, 102, 103, 104, 105, 106, 107, 108, 109, 110, 111, 112, 113, 114, 115, 116, 117] rfl (by decide +kernel)
set_option maxRecDepth 20000 in
theorem gX12_rounding_X12_must_ : GoodIn wsX12_rounding (wsV RX12 350 RX12 yX12_must_ wsX12_must_) := goodIn_app (goodIn_of _ (by decide +kernel)) ggX12_rounding_X12_must_
set_option maxRecDepth 20000 in
theorem ggX12_rounding_X12_number : GoodIn wsX12_rounding wsX12_number := goodIn_r _ [44, 9, 25, 10, 34, 11, 12, 13, 7, 14, 15, 16, 17, 18, 19, 20, 45, 46, 47, 27, 28, 29, 30, 31, 32, 33, 26, 35, 36, 37, 38, 39, 40, 48, 49, 50, 51, 52, 53, 54, 55, 56, 57, 58, 59, 60, 61, 62, 63, 64, 65, 66, 67, 68, 69, 70, 71, 72, 73, 74, 75, 76, 77, 78, 79, 80, 81, 82, 83, 84, 85, 86, 87, 88, 89, 90, 91, 92, 93, 94, 95, 96, 97, 98, 99, 100, 101, 102, 103, 104, 105, 106, 107, 108, 109, 110, 111, 112, 113, 114, 115, 116, 117] rfl (by decide +kernel)
set_option maxRecDepth 20000 in
theorem gX12_rounding_X12_number : GoodIn wsX12_rounding (wsV RX12 346 RX12 yX12_number wsX12_number) := goodIn_app (goodIn_of _ (by decide +kernel)) ggX12_rounding_X12_number
def dsX12_rounding_0 : List (Nat × Instr × Nat) := [(0, (.aload_n 0, 1)), (1, (.ldc2_w 253, 3)), (4, (.invokevirtual 350, 3)), (7, (.aload_n 0, 1)), (8, (.getfield 54, 3)), (11, (.aload_n 0, 1)), (12, (.getfield 106, 3)), (15, (.aload_n 0, 1)), (16, (.iconst 5, 1)), (17, (.sipush 200, 3)), (20, (.invokevirtual 346, 3)), (23, (.iastore, 1)), (24, (.return_, 1))]
theorem dsX12_rounding_0_ok : (dsX12_rounding_0.all fun q => decide (decode cX12_rounding q.1 = .ok q.2)) = true := by decide +kernel
theorem dX12_rounding_0 : decode cX12_rounding 0 = .ok (.aload_n 0, 1) := of_decide_eq_true (List.all_eq_true.mp dsX12_rounding_0_ok (0, (.aload_n 0, 1)) (List.mem_of_getElem? (i := 0) rfl))
theorem dX12_rounding_1 : decode cX12_rounding 1 = .ok (.ldc2_w 253, 3) := of_decide_eq_true (List.all_eq_true.mp dsX12_rounding_0_ok (1, (.ldc2_w 253, 3)) (List.mem_of_getElem? (i := 1) rfl))
theorem dX12_rounding_4 : decode cX12_rounding 4 = .ok (.invokevirtual 350, 3) := of_decide_eq_true (List.all_eq_true.mp dsX12_rounding_0_ok (4, (.invokevirtual 350, 3)) (List.mem_of_getElem? (i := 2) rfl))
theorem dX12_rounding_7 : decode cX12_rounding 7 = .ok (.aload_n 0, 1) := of_decide_eq_true (List.all_eq_true.mp dsX12_rounding_0_ok (7, (.aload_n 0, 1)) (List.mem_of_getElem? (i := 3) rfl))
theorem dX12_rounding_8 : decode cX12_rounding 8 = .ok (.getfield 54, 3) := of_decide_eq_true (List.all_eq_true.mp dsX12_rounding_0_ok (8, (.getfield 54, 3)) (List.mem_of_getElem? (i := 4) rfl))
theorem dX12_rounding_11 : decode cX12_rounding 11 = .ok (.aload_n 0, 1) := of_decide_eq_true (List.all_eq_true.mp dsX12_rounding_0_ok (11, (.aload_n 0, 1)) (List.mem_of_getElem? (i := 5) rfl))
theorem dX12_rounding_12 : decode cX12_rounding 12 = .ok (.getfield 106, 3) := of_decide_eq_true (List.all_eq_true.mp dsX12_rounding_0_ok (12, (.getfield 106, 3)) (List.mem_of_getElem? (i := 6) rfl))
theorem dX12_rounding_15 : decode cX12_rounding 15 = .ok (.aload_n 0, 1) := of_decide_eq_true (List.all_eq_true.mp dsX12_rounding_0_ok (15, (.aload_n 0, 1)) (List.mem_of_getElem? (i := 7) rfl))
theorem dX12_rounding_16 : decode cX12_rounding 16 = .ok (.iconst 5, 1) := of_decide_eq_true (List.all_eq_true.mp dsX12_rounding_0_ok (16, (.iconst 5, 1)) (List.mem_of_getElem? (i := 8) rfl))
theorem dX12_rounding_17 : decode cX12_rounding 17 = .ok (.sipush 200, 3) := of_decide_eq_true (List.all_eq_true.mp dsX12_rounding_0_ok (17, (.sipush 200, 3)) (List.mem_of_getElem? (i := 9) rfl))
theorem dX12_rounding_20 : decode cX12_rounding 20 = .ok (.invokevirtual 346, 3) := of_decide_eq_true (List.all_eq_true.mp dsX12_rounding_0_ok (20, (.invokevirtual 346, 3)) (List.mem_of_getElem? (i := 10) rfl))
theorem dX12_rounding_23 : decode cX12_rounding 23 = .ok (.iastore, 1) := of_decide_eq_true (List.all_eq_true.mp dsX12_rounding_0_ok (23, (.iastore, 1)) (List.mem_of_getElem? (i := 11) rfl))
theorem dX12_rounding_24 : decode cX12_rounding 24 = .ok (.return_, 1) := of_decide_eq_true (List.all_eq_true.mp dsX12_rounding_0_ok (24, (.return_, 1)) (List.mem_of_getElem? (i := 12) rfl))
def fX12_rounding (N : Nat) (mmI : Nat → Int32) (mmJ : Nat → Int64) (mm_tapeF : Nat → Int32) (mm_milesToldF : Nat → Int32)   : Option ((Nat → Int32) × (Nat → Int64) × (Nat → Int32)) :=
  (xq_bd (fX12_must_ N mmI mmJ mm_tapeF 491496238692) fun (r_1_0, r_1_1) => (xq_bd (fX12_number N r_1_0 r_1_1 mm_tapeF 5 200) fun (r_3_0, r_3_1, r_3_2) => (xq_bd (xq_ast 2 mm_milesToldF (r_1_0 31) r_3_0) fun g_5 => some ((r_3_1, r_3_2, g_5)))))
set_option maxHeartbeats 4000000 in
set_option maxRecDepth 100000 in
theorem kX12_rounding (l : Launch) (dC : Nat → ClassId) (dI : Nat → Nat → Nat) (cI cB cJ cZ cM : ClassId) (z : Nat) (ad : Nat → Nat) (N : Nat) (a_p0 : Nat) (mmI : Nat → Int32) (mmJ : Nat → Int64) (mmR : Nat → Nat) (mm_tapeF : Nat → Int32) (mm_milesToldF : Nat → Int32) {r0 : Nat → Int32} {r1 : Nat → Int64} {r2 : Nat → Int32} (hf : fX12_rounding N mmI mmJ mm_tapeF mm_milesToldF = some (r0, r1, r2)) : xq_Ct l yX12_rounding wsX12_rounding { frames := 3, cells := 0, slots := 0, locals := 68 } (dC, dI) vwCl (xq_tys cI cB cJ cZ cM) z ad [.ref a_p0] [(a_p0, .inr (12, oX12 mmI mmJ mmR)), ((mmR 0), .inl (cI, 1800, .inl mm_tapeF)), ((mmR 14), .inl (cI, 2, .inl mm_milesToldF))] [(a_p0, .inr (12, oX12 r0 r1 mmR)), ((mmR 0), .inl (cI, 1800, .inl mm_tapeF)), ((mmR 14), .inl (cI, 2, .inl r2))] none := by
  intro sz
  refine Met.ofW (cc := cX12_rounding) (maxL := 1) (ret := none) (by decide) rfl ?_
  intro p e s m args below meth c s₁ B hml hv
  obtain ⟨rfl, hsz, hP, hK, hD0, hE, hz⟩ := hv
  have hx := B.exec
  have hb := B.bytes
  have hr := B.returns
  have hts := atoms_spec (ws := wsX12_rounding) B.pre
  have hown : s.vm.findClass RX12 = some m.cls := findClass_of_methodNamed B.named
  have hlocks := B.notSynchronized
  subst hsz
  have hD := hD0.self (sz := s.heap.size)
  have hN := xq_Env.of hE hz hD0
  generalize hAe : va_A [(a_p0, .inr (12, oX12 mmI mmJ mmR)), ((mmR 0), .inl (cI, 1800, .inl mm_tapeF)), ((mmR 14), .inl (cI, 2, .inl mm_milesToldF))] s.heap.size = A at hD hN ⊢
  have hA : ∀ q : Nat, s.heap.size ≤ q → A q := fun q h => by rw [← hAe]; exact Or.inr h
  clear hAe hD0
  have hS : va_S A s.heap s.heap [] := va_S.rf
  have hl := lv_entry ([.ref a_p0]) (n := 1) (Nat.le_of_ble_eq_true rfl)
  rw [lg_entry_eq]
  generalize (lg_sl ([.ref a_p0]) ++ List.replicate (1 - (lg_sl ([.ref a_p0])).length) Slot.unset).toArray = ls at hl ⊢
  have hl : lv_has ls 1 [(0, .ref a_p0)] := hl
  have hw0 := hts (.constantLong RX12 253 (491496238692)) (by decide +kernel)
  have hw1 := hts (.fieldLink RX12 54 "DistantVoiceModel" "milesTold" "[I") (by decide +kernel)
  have hinX12 : ∀ w ∈ wsX120, w ∈ wsX12_rounding := fun w h => List.mem_cons_of_mem _ (List.mem_append_right _ h)
  have hw3 := hts (.fieldLink RX12 106 "DistantVoiceModel" "in" "I") (by decide +kernel)
  unfold fX12_rounding at hf
  refine lv_aload_n hx hb dX12_rounding_0 rfl (lv_at hl 0 rfl) ?_
  refine lv_ldc2 (v := 491496238692) hx hb hown hw0 dX12_rounding_1 ?_
  obtain ⟨⟨r_1_0, r_1_1⟩, h_2, hf⟩ := xq_bd_some hf
  refine xq_callV (As := [.long 491496238692]) (rest := []) (ci := 12) (q0 := 0) ⟨hx, hb, hml, hown, hts⟩ (kX12_must_ l dC dI cI cB cJ cZ cM z ad N a_p0 mmI mmJ mmR mm_tapeF 491496238692 h_2) (cwV 1 hts gX12_rounding_X12_must_ rfl rfl rfl (by decide +kernel) ⟨Nat.le_of_ble_eq_true rfl, Nat.le_of_ble_eq_true rfl⟩) hN hK hP hD hS hA [0, 1] (by decide) rfl rfl rfl rfl rfl rfl hl.1 rfl (Nat.le_of_ble_eq_true rfl) dX12_rounding_4 ⟨Nat.zero_le _, Nat.zero_le _⟩ (fun H locs hP hD hS => ?_)
  have hP : va_P (dC, dI) vwCl [(a_p0, .inr (12, oX12 r_1_0 r_1_1 mmR)), ((mmR 0), .inl (cI, 1800, .inl mm_tapeF)), ((mmR 14), .inl (cI, 2, .inl mm_milesToldF))] H := hP
  have hD : va_D A [(a_p0, .inr (12, oX12 r_1_0 r_1_1 mmR)), ((mmR 0), .inl (cI, 1800, .inl mm_tapeF)), ((mmR 14), .inl (cI, 2, .inl mm_milesToldF))] := hD
  refine W.eq (g2 := F0 m 7 ls []) rfl ?_
  refine lv_aload_n hx hb dX12_rounding_7 rfl (lv_at hl 0 rfl) ?_
  refine va_get (D := (dC, dI)) (ci := 12) (v := .ref ((mmR 14))) (C := RX12) (T := TX12) (N := 70) hx hb hts hinX12 hown hK hP 0 rfl rfl 14 (by decide) hw1 (fun _ h9 => h9) rfl dX12_rounding_8 ?_
  refine lv_aload_n hx hb dX12_rounding_11 rfl (lv_at hl 0 rfl) ?_
  refine va_get (D := (dC, dI)) (ci := 12) (v := .int (r_1_0 31)) (C := RX12) (T := TX12) (N := 70) hx hb hts hinX12 hown hK hP 0 rfl rfl 31 (by decide) hw3 (fun _ h9 => h9) rfl dX12_rounding_12 ?_
  refine lv_aload_n hx hb dX12_rounding_15 rfl (lv_at hl 0 rfl) ?_
  refine lv_iconst (v := 5) hx hb dX12_rounding_16 (by decide) ?_
  refine lv_sipush (v := 200) hx hb dX12_rounding_17 (by decide) ?_
  obtain ⟨⟨r_3_0, r_3_1, r_3_2⟩, h_4, hf⟩ := xq_bd_some hf
  refine xq_callV (As := [.int 5, .int 200]) (rest := [.int (r_1_0 31), .ref ((mmR 14))]) (ci := 12) (q0 := 0) ⟨hx, hb, hml, hown, hts⟩ (kX12_number l dC dI cI cB cJ cZ cM z ad N a_p0 r_1_0 r_1_1 mmR mm_tapeF 5 200 h_4) (cwV 2 hts gX12_rounding_X12_number rfl rfl rfl (by decide +kernel) ⟨Nat.le_of_ble_eq_true rfl, Nat.le_of_ble_eq_true rfl⟩) hN hK hP hD hS hA [0, 1] (by decide) rfl rfl rfl rfl rfl rfl hl.1 rfl (Nat.le_of_ble_eq_true rfl) dX12_rounding_20 ⟨Nat.zero_le _, Nat.zero_le _⟩ (fun H locs hP hD hS => ?_)
  have hP : va_P (dC, dI) vwCl [(a_p0, .inr (12, oX12 r_3_1 r_3_2 mmR)), ((mmR 0), .inl (cI, 1800, .inl mm_tapeF)), ((mmR 14), .inl (cI, 2, .inl mm_milesToldF))] H := hP
  have hD : va_D A [(a_p0, .inr (12, oX12 r_3_1 r_3_2 mmR)), ((mmR 0), .inl (cI, 1800, .inl mm_tapeF)), ((mmR 14), .inl (cI, 2, .inl mm_milesToldF))] := hD
  refine W.eq (g2 := F0 m 23 ls [.int r_3_0, .int (r_1_0 31), .ref ((mmR 14))]) rfl ?_
  refine xq_iast hx hb hK hP hD hS 2 0 rfl rfl hf dX12_rounding_23 (fun g_5 H locs hf hP hD hS => ?_)
  have hP : va_P (dC, dI) vwCl [(a_p0, .inr (12, oX12 r_3_1 r_3_2 mmR)), ((mmR 0), .inl (cI, 1800, .inl mm_tapeF)), ((mmR 14), .inl (cI, 2, .inl g_5))] H := hP
  have hD : va_D A [(a_p0, .inr (12, oX12 r_3_1 r_3_2 mmR)), ((mmR 0), .inl (cI, 1800, .inl mm_tapeF)), ((mmR 14), .inl (cI, 2, .inl g_5))] := hD
  have e9 := Option.some.inj hf
  have e9_0 : r_3_1 = r0 := congrArg (fun t => t.1) e9
  have e9_1 : r_3_2 = r1 := congrArg (fun t => t.2.1) e9
  have e9_2 : g_5 = r2 := congrArg (fun t => t.2.2) e9
  clear e9 hf
  subst e9_0
  subst e9_1
  subst e9_2
  exact xq_vret hx hb hr hlocks hK hP hD hS dX12_rounding_24
set_option maxRecDepth 20000 in
theorem ggX12_earing_X12_isCounted : GoodIn wsX12_earing wsX12_isCounted := goodIn_r _ [13, 8, 14, 15, 16, 17, 12, 18, 19, 20, 21, 22, 23, 24, 25, 26, 27, 28, 29, 30, 31, 32, 33, 34, 35, 36, 92, 93, 94, 95, 96, 97, 98, 99, 100, 101, 102, 103, 104, 105, 106, 107, 108, 109, 110, 111, 112, 113, 114, 115, 116, 117, 118, 119, 120, 121, 122, 123, 124, 125, 126, 127, 128, 129, 130, 131, 132, 133, 134, 135, 136, 137, 138, 139, 140, 141, 142, 143, 144, 145, 146, 147, 148, 149, 150, 151, 152, 153, 154, 155, 156, 157, 158, 159, 160, 161] rfl (by decide +kernel)
set_option maxRecDepth 20000 in
theorem gX12_earing_X12_isCounted : GoodIn wsX12_earing (wsV RX12 342 RX12 yX12_isCounted wsX12_isCounted) := goodIn_app (goodIn_of _ (by decide +kernel)) ggX12_earing_X12_isCounted
set_option maxRecDepth 20000 in
theorem ggX12_earing_X12_fresh : GoodIn wsX12_earing wsX12_fresh := goodIn_r _ [40, 8, 27, 30, 14, 41, 42, 43, 12, 44, 28, 15, 16, 17, 18, 19, 45, 46, 47, 48, 49, 50, 51, 52, 53, 4, 6, 54, 55, 56, 57, 58, 59, 60, 61, 62, 63, 64, 65, 66, 67, 68, 69, 70, 71, 72, 73, 74, 1, 2, 3, 75, 76, 20, 21, 22, 23, 24, 25, 26, 29, 31, 32, 33, 34, 35, 36, 92, 93, 94, 95, 96, 97, 98, 99, 100, 101, 102, 103, 104, 105, 106, 107, 108, 109, 110, 111, 112, 113, 114, 115, 116, 117, 118, 119, 120, 121, 122, 123, 124, 125, 126, 127, 128, 129, 130, 131, 132, 133, 134, 135, 136, 137, 138, 139, 140, 141, 142, 143, 144, 145, 146, 147, 148, 149, 150, 151, 152, 153, 154, 155, 156, 157, 158, 159, 160, 161] rfl (by decide +kernel)
set_option maxRecDepth 20000 in
theorem gX12_earing_X12_fresh : GoodIn wsX12_earing (wsV RX12 354 RX12 yX12_fresh wsX12_fresh) := goodIn_app (goodIn_of _ (by decide +kernel)) ggX12_earing_X12_fresh
set_option maxRecDepth 20000 in
theorem ggX12_earing_X12_must_ : GoodIn wsX12_earing wsX12_must_ := goodIn_r _ [80, 8, 14, 41, 42, 43, 12, 44, 28, 15, 16, 17, 18, 19, 81, 82, 83, 84, 27, 30, 20, 21, 22, 23, 24, 25, 26, 29, 31, 32, 33, 34, 35, 36, 92, 93, 94, 95, 96, 97, 98, 99, 100, 101, 102, 103, 104, 105, 106, 107, 108, 109, 110, 111, 112, 113, 114, 115, 116, 117, 118, 119, 120, 121, 122, 123, 124, 125, 126, 127, 128, 129, 130, 131, 132, 133, 134, 135, 136, 137, 138, 139, 140, 141, 142, 143, 144, 145, 146, 147, 148, 149, 150, 151, 152, 153, 154, 155, 156, 157, 158, 159, 160, 161] rfl (by decide +kernel)
set_option maxRecDepth 20000 in
theorem gX12_earing_X12_must_ : GoodIn wsX12_earing (wsV RX12 350 RX12 yX12_must_ wsX12_must_) := goodIn_app (goodIn_of _ (by decide +kernel)) ggX12_earing_X12_must_
set_option maxRecDepth 20000 in
theorem ggX12_earing_X12_number : GoodIn wsX12_earing wsX12_number := goodIn_r _ [88, 8, 27, 14, 29, 41, 42, 43, 12, 44, 28, 15, 16, 17, 18, 19, 89, 90, 91, 20, 21, 22, 23, 24, 25, 26, 30, 31, 32, 33, 34, 35, 36, 92, 93, 94, 95, 96, 97, 98, 99, 100, 101, 102, 103, 104, 105, 106, 107, 108, 109, 110, 111, 112, 113, 114, 115, 116, 117, 118, 119, 120, 121, 122, 123, 124, 125, 126, 127, 128, 129, 130, 131, 132, 133, 134, 135, 136, 137, 138, 139, 140, 141, 142, 143, 144, 145, 146, 147, 148, 149, 150, 151, 152, 153, 154, 155, 156, 157, 158, 159, 160, 161] rfl (by decide +kernel)
set_option maxRecDepth 20000 in
theorem gX12_earing_X12_number : GoodIn wsX12_earing (wsV RX12 346 RX12 yX12_number wsX12_number) := goodIn_app (goodIn_of _ (by decide +kernel)) ggX12_earing_X12_number
def dsX12_earing_0 : List (Nat × Instr × Nat) := [(0, (.aload_n 0, 1)), (1, (.aload_n 0, 1)), (2, (.getfield 66, 3)), (5, (.aload_n 0, 1)), (6, (.getfield 106, 3)), (9, (.iaload, 1)), (10, (.bipush 7, 2)), (12, (.if_icmp .ne 7, 3)), (15, (.iconst 1, 1)), (16, (.goto 4, 3)), (19, (.iconst 0, 1)), (20, (.invokevirtual 342, 3)), (23, (.ifCond .ne 4, 3)), (26, (.return_, 1)), (27, (.bipush 7, 2)), (29, (.aload_n 0, 1)), (30, (.getfield 106, 3)), (33, (.imul, 1)), (34, (.aload_n 0, 1)), (35, (.getfield 66, 3)), (38, (.aload_n 0, 1)), (39, (.getfield 106, 3)), (42, (.iaload, 1)), (43, (.iadd, 1)), (44, (.istore_n 1, 1)), (45, (.aload_n 0, 1)), (46, (.getfield 96, 3)), (49, (.iload_n 1, 1)), (50, (.aload_n 0, 1)), (51, (.invokevirtual 354, 3)), (54, (.lastore, 1)), (55, (.aload_n 0, 1)), (56, (.ldc2_w 263, 3)), (59, (.invokevirtual 350, 3)), (62, (.aload_n 0, 1)), (63, (.getfield 69, 3)), (66, (.iload_n 1, 1)), (67, (.aload_n 0, 1)), (68, (.iconst 0, 1)), (69, (.bipush 9, 2)), (71, (.invokevirtual 346, 3)), (74, (.iastore, 1)), (75, (.aload_n 0, 1)), (76, (.ldc2_w 265, 3)), (79, (.invokevirtual 350, 3)), (82, (.aload_n 0, 1)), (83, (.getfield 72, 3)), (86, (.iload_n 1, 1)), (87, (.aload_n 0, 1)), (88, (.iconst 0, 1)), (89, (.bipush 9, 2)), (91, (.invokevirtual 346, 3)), (94, (.iastore, 1)), (95, (.aload_n 0, 1)), (96, (.getfield 36, 3)), (99, (.ifCond .ne 16, 3)), (102, (.aload_n 0, 1)), (103, (.getfield 66, 3)), (106, (.aload_n 0, 1)), (107, (.getfield 106, 3))]
theorem dsX12_earing_0_ok : (dsX12_earing_0.all fun q => decide (decode cX12_earing q.1 = .ok q.2)) = true := by decide +kernel
theorem dX12_earing_0 : decode cX12_earing 0 = .ok (.aload_n 0, 1) := of_decide_eq_true (List.all_eq_true.mp dsX12_earing_0_ok (0, (.aload_n 0, 1)) (List.mem_of_getElem? (i := 0) rfl))
theorem dX12_earing_1 : decode cX12_earing 1 = .ok (.aload_n 0, 1) := of_decide_eq_true (List.all_eq_true.mp dsX12_earing_0_ok (1, (.aload_n 0, 1)) (List.mem_of_getElem? (i := 1) rfl))
theorem dX12_earing_2 : decode cX12_earing 2 = .ok (.getfield 66, 3) := of_decide_eq_true (List.all_eq_true.mp dsX12_earing_0_ok (2, (.getfield 66, 3)) (List.mem_of_getElem? (i := 2) rfl))
theorem dX12_earing_5 : decode cX12_earing 5 = .ok (.aload_n 0, 1) := of_decide_eq_true (List.all_eq_true.mp dsX12_earing_0_ok (5, (.aload_n 0, 1)) (List.mem_of_getElem? (i := 3) rfl))
theorem dX12_earing_6 : decode cX12_earing 6 = .ok (.getfield 106, 3) := of_decide_eq_true (List.all_eq_true.mp dsX12_earing_0_ok (6, (.getfield 106, 3)) (List.mem_of_getElem? (i := 4) rfl))
theorem dX12_earing_9 : decode cX12_earing 9 = .ok (.iaload, 1) := of_decide_eq_true (List.all_eq_true.mp dsX12_earing_0_ok (9, (.iaload, 1)) (List.mem_of_getElem? (i := 5) rfl))
theorem dX12_earing_10 : decode cX12_earing 10 = .ok (.bipush 7, 2) := of_decide_eq_true (List.all_eq_true.mp dsX12_earing_0_ok (10, (.bipush 7, 2)) (List.mem_of_getElem? (i := 6) rfl))
theorem dX12_earing_12 : decode cX12_earing 12 = .ok (.if_icmp .ne 7, 3) := of_decide_eq_true (List.all_eq_true.mp dsX12_earing_0_ok (12, (.if_icmp .ne 7, 3)) (List.mem_of_getElem? (i := 7) rfl))
theorem dX12_earing_15 : decode cX12_earing 15 = .ok (.iconst 1, 1) := of_decide_eq_true (List.all_eq_true.mp dsX12_earing_0_ok (15, (.iconst 1, 1)) (List.mem_of_getElem? (i := 8) rfl))
theorem dX12_earing_16 : decode cX12_earing 16 = .ok (.goto 4, 3) := of_decide_eq_true (List.all_eq_true.mp dsX12_earing_0_ok (16, (.goto 4, 3)) (List.mem_of_getElem? (i := 9) rfl))
theorem dX12_earing_19 : decode cX12_earing 19 = .ok (.iconst 0, 1) := of_decide_eq_true (List.all_eq_true.mp dsX12_earing_0_ok (19, (.iconst 0, 1)) (List.mem_of_getElem? (i := 10) rfl))
theorem dX12_earing_20 : decode cX12_earing 20 = .ok (.invokevirtual 342, 3) := of_decide_eq_true (List.all_eq_true.mp dsX12_earing_0_ok (20, (.invokevirtual 342, 3)) (List.mem_of_getElem? (i := 11) rfl))
theorem dX12_earing_23 : decode cX12_earing 23 = .ok (.ifCond .ne 4, 3) := of_decide_eq_true (List.all_eq_true.mp dsX12_earing_0_ok (23, (.ifCond .ne 4, 3)) (List.mem_of_getElem? (i := 12) rfl))
theorem dX12_earing_26 : decode cX12_earing 26 = .ok (.return_, 1) := of_decide_eq_true (List.all_eq_true.mp dsX12_earing_0_ok (26, (.return_, 1)) (List.mem_of_getElem? (i := 13) rfl))
theorem dX12_earing_27 : decode cX12_earing 27 = .ok (.bipush 7, 2) := of_decide_eq_true (List.all_eq_true.mp dsX12_earing_0_ok (27, (.bipush 7, 2)) (List.mem_of_getElem? (i := 14) rfl))
theorem dX12_earing_29 : decode cX12_earing 29 = .ok (.aload_n 0, 1) := of_decide_eq_true (List.all_eq_true.mp dsX12_earing_0_ok (29, (.aload_n 0, 1)) (List.mem_of_getElem? (i := 15) rfl))
theorem dX12_earing_30 : decode cX12_earing 30 = .ok (.getfield 106, 3) := of_decide_eq_true (List.all_eq_true.mp dsX12_earing_0_ok (30, (.getfield 106, 3)) (List.mem_of_getElem? (i := 16) rfl))
theorem dX12_earing_33 : decode cX12_earing 33 = .ok (.imul, 1) := of_decide_eq_true (List.all_eq_true.mp dsX12_earing_0_ok (33, (.imul, 1)) (List.mem_of_getElem? (i := 17) rfl))
theorem dX12_earing_34 : decode cX12_earing 34 = .ok (.aload_n 0, 1) := of_decide_eq_true (List.all_eq_true.mp dsX12_earing_0_ok (34, (.aload_n 0, 1)) (List.mem_of_getElem? (i := 18) rfl))
theorem dX12_earing_35 : decode cX12_earing 35 = .ok (.getfield 66, 3) := of_decide_eq_true (List.all_eq_true.mp dsX12_earing_0_ok (35, (.getfield 66, 3)) (List.mem_of_getElem? (i := 19) rfl))
theorem dX12_earing_38 : decode cX12_earing 38 = .ok (.aload_n 0, 1) := of_decide_eq_true (List.all_eq_true.mp dsX12_earing_0_ok (38, (.aload_n 0, 1)) (List.mem_of_getElem? (i := 20) rfl))
theorem dX12_earing_39 : decode cX12_earing 39 = .ok (.getfield 106, 3) := of_decide_eq_true (List.all_eq_true.mp dsX12_earing_0_ok (39, (.getfield 106, 3)) (List.mem_of_getElem? (i := 21) rfl))
theorem dX12_earing_42 : decode cX12_earing 42 = .ok (.iaload, 1) := of_decide_eq_true (List.all_eq_true.mp dsX12_earing_0_ok (42, (.iaload, 1)) (List.mem_of_getElem? (i := 22) rfl))
theorem dX12_earing_43 : decode cX12_earing 43 = .ok (.iadd, 1) := of_decide_eq_true (List.all_eq_true.mp dsX12_earing_0_ok (43, (.iadd, 1)) (List.mem_of_getElem? (i := 23) rfl))
theorem dX12_earing_44 : decode cX12_earing 44 = .ok (.istore_n 1, 1) := of_decide_eq_true (List.all_eq_true.mp dsX12_earing_0_ok (44, (.istore_n 1, 1)) (List.mem_of_getElem? (i := 24) rfl))
theorem dX12_earing_45 : decode cX12_earing 45 = .ok (.aload_n 0, 1) := of_decide_eq_true (List.all_eq_true.mp dsX12_earing_0_ok (45, (.aload_n 0, 1)) (List.mem_of_getElem? (i := 25) rfl))
theorem dX12_earing_46 : decode cX12_earing 46 = .ok (.getfield 96, 3) := of_decide_eq_true (List.all_eq_true.mp dsX12_earing_0_ok (46, (.getfield 96, 3)) (List.mem_of_getElem? (i := 26) rfl))
theorem dX12_earing_49 : decode cX12_earing 49 = .ok (.iload_n 1, 1) := of_decide_eq_true (List.all_eq_true.mp dsX12_earing_0_ok (49, (.iload_n 1, 1)) (List.mem_of_getElem? (i := 27) rfl))
theorem dX12_earing_50 : decode cX12_earing 50 = .ok (.aload_n 0, 1) := of_decide_eq_true (List.all_eq_true.mp dsX12_earing_0_ok (50, (.aload_n 0, 1)) (List.mem_of_getElem? (i := 28) rfl))
theorem dX12_earing_51 : decode cX12_earing 51 = .ok (.invokevirtual 354, 3) := of_decide_eq_true (List.all_eq_true.mp dsX12_earing_0_ok (51, (.invokevirtual 354, 3)) (List.mem_of_getElem? (i := 29) rfl))
theorem dX12_earing_54 : decode cX12_earing 54 = .ok (.lastore, 1) := of_decide_eq_true (List.all_eq_true.mp dsX12_earing_0_ok (54, (.lastore, 1)) (List.mem_of_getElem? (i := 30) rfl))
theorem dX12_earing_55 : decode cX12_earing 55 = .ok (.aload_n 0, 1) := of_decide_eq_true (List.all_eq_true.mp dsX12_earing_0_ok (55, (.aload_n 0, 1)) (List.mem_of_getElem? (i := 31) rfl))
theorem dX12_earing_56 : decode cX12_earing 56 = .ok (.ldc2_w 263, 3) := of_decide_eq_true (List.all_eq_true.mp dsX12_earing_0_ok (56, (.ldc2_w 263, 3)) (List.mem_of_getElem? (i := 32) rfl))
theorem dX12_earing_59 : decode cX12_earing 59 = .ok (.invokevirtual 350, 3) := of_decide_eq_true (List.all_eq_true.mp dsX12_earing_0_ok (59, (.invokevirtual 350, 3)) (List.mem_of_getElem? (i := 33) rfl))
theorem dX12_earing_62 : decode cX12_earing 62 = .ok (.aload_n 0, 1) := of_decide_eq_true (List.all_eq_true.mp dsX12_earing_0_ok (62, (.aload_n 0, 1)) (List.mem_of_getElem? (i := 34) rfl))
theorem dX12_earing_63 : decode cX12_earing 63 = .ok (.getfield 69, 3) := of_decide_eq_true (List.all_eq_true.mp dsX12_earing_0_ok (63, (.getfield 69, 3)) (List.mem_of_getElem? (i := 35) rfl))
theorem dX12_earing_66 : decode cX12_earing 66 = .ok (.iload_n 1, 1) := of_decide_eq_true (List.all_eq_true.mp dsX12_earing_0_ok (66, (.iload_n 1, 1)) (List.mem_of_getElem? (i := 36) rfl))
theorem dX12_earing_67 : decode cX12_earing 67 = .ok (.aload_n 0, 1) := of_decide_eq_true (List.all_eq_true.mp dsX12_earing_0_ok (67, (.aload_n 0, 1)) (List.mem_of_getElem? (i := 37) rfl))
theorem dX12_earing_68 : decode cX12_earing 68 = .ok (.iconst 0, 1) := of_decide_eq_true (List.all_eq_true.mp dsX12_earing_0_ok (68, (.iconst 0, 1)) (List.mem_of_getElem? (i := 38) rfl))
theorem dX12_earing_69 : decode cX12_earing 69 = .ok (.bipush 9, 2) := of_decide_eq_true (List.all_eq_true.mp dsX12_earing_0_ok (69, (.bipush 9, 2)) (List.mem_of_getElem? (i := 39) rfl))
theorem dX12_earing_71 : decode cX12_earing 71 = .ok (.invokevirtual 346, 3) := of_decide_eq_true (List.all_eq_true.mp dsX12_earing_0_ok (71, (.invokevirtual 346, 3)) (List.mem_of_getElem? (i := 40) rfl))
theorem dX12_earing_74 : decode cX12_earing 74 = .ok (.iastore, 1) := of_decide_eq_true (List.all_eq_true.mp dsX12_earing_0_ok (74, (.iastore, 1)) (List.mem_of_getElem? (i := 41) rfl))
theorem dX12_earing_75 : decode cX12_earing 75 = .ok (.aload_n 0, 1) := of_decide_eq_true (List.all_eq_true.mp dsX12_earing_0_ok (75, (.aload_n 0, 1)) (List.mem_of_getElem? (i := 42) rfl))
theorem dX12_earing_76 : decode cX12_earing 76 = .ok (.ldc2_w 265, 3) := of_decide_eq_true (List.all_eq_true.mp dsX12_earing_0_ok (76, (.ldc2_w 265, 3)) (List.mem_of_getElem? (i := 43) rfl))
theorem dX12_earing_79 : decode cX12_earing 79 = .ok (.invokevirtual 350, 3) := of_decide_eq_true (List.all_eq_true.mp dsX12_earing_0_ok (79, (.invokevirtual 350, 3)) (List.mem_of_getElem? (i := 44) rfl))
theorem dX12_earing_82 : decode cX12_earing 82 = .ok (.aload_n 0, 1) := of_decide_eq_true (List.all_eq_true.mp dsX12_earing_0_ok (82, (.aload_n 0, 1)) (List.mem_of_getElem? (i := 45) rfl))
theorem dX12_earing_83 : decode cX12_earing 83 = .ok (.getfield 72, 3) := of_decide_eq_true (List.all_eq_true.mp dsX12_earing_0_ok (83, (.getfield 72, 3)) (List.mem_of_getElem? (i := 46) rfl))
theorem dX12_earing_86 : decode cX12_earing 86 = .ok (.iload_n 1, 1) := of_decide_eq_true (List.all_eq_true.mp dsX12_earing_0_ok (86, (.iload_n 1, 1)) (List.mem_of_getElem? (i := 47) rfl))
theorem dX12_earing_87 : decode cX12_earing 87 = .ok (.aload_n 0, 1) := of_decide_eq_true (List.all_eq_true.mp dsX12_earing_0_ok (87, (.aload_n 0, 1)) (List.mem_of_getElem? (i := 48) rfl))
theorem dX12_earing_88 : decode cX12_earing 88 = .ok (.iconst 0, 1) := of_decide_eq_true (List.all_eq_true.mp dsX12_earing_0_ok (88, (.iconst 0, 1)) (List.mem_of_getElem? (i := 49) rfl))
theorem dX12_earing_89 : decode cX12_earing 89 = .ok (.bipush 9, 2) := of_decide_eq_true (List.all_eq_true.mp dsX12_earing_0_ok (89, (.bipush 9, 2)) (List.mem_of_getElem? (i := 50) rfl))
theorem dX12_earing_91 : decode cX12_earing 91 = .ok (.invokevirtual 346, 3) := of_decide_eq_true (List.all_eq_true.mp dsX12_earing_0_ok (91, (.invokevirtual 346, 3)) (List.mem_of_getElem? (i := 51) rfl))
theorem dX12_earing_94 : decode cX12_earing 94 = .ok (.iastore, 1) := of_decide_eq_true (List.all_eq_true.mp dsX12_earing_0_ok (94, (.iastore, 1)) (List.mem_of_getElem? (i := 52) rfl))
theorem dX12_earing_95 : decode cX12_earing 95 = .ok (.aload_n 0, 1) := of_decide_eq_true (List.all_eq_true.mp dsX12_earing_0_ok (95, (.aload_n 0, 1)) (List.mem_of_getElem? (i := 53) rfl))
theorem dX12_earing_96 : decode cX12_earing 96 = .ok (.getfield 36, 3) := of_decide_eq_true (List.all_eq_true.mp dsX12_earing_0_ok (96, (.getfield 36, 3)) (List.mem_of_getElem? (i := 54) rfl))
theorem dX12_earing_99 : decode cX12_earing 99 = .ok (.ifCond .ne 16, 3) := of_decide_eq_true (List.all_eq_true.mp dsX12_earing_0_ok (99, (.ifCond .ne 16, 3)) (List.mem_of_getElem? (i := 55) rfl))
theorem dX12_earing_102 : decode cX12_earing 102 = .ok (.aload_n 0, 1) := of_decide_eq_true (List.all_eq_true.mp dsX12_earing_0_ok (102, (.aload_n 0, 1)) (List.mem_of_getElem? (i := 56) rfl))
theorem dX12_earing_103 : decode cX12_earing 103 = .ok (.getfield 66, 3) := of_decide_eq_true (List.all_eq_true.mp dsX12_earing_0_ok (103, (.getfield 66, 3)) (List.mem_of_getElem? (i := 57) rfl))
theorem dX12_earing_106 : decode cX12_earing 106 = .ok (.aload_n 0, 1) := of_decide_eq_true (List.all_eq_true.mp dsX12_earing_0_ok (106, (.aload_n 0, 1)) (List.mem_of_getElem? (i := 58) rfl))
theorem dX12_earing_107 : decode cX12_earing 107 = .ok (.getfield 106, 3) := of_decide_eq_true (List.all_eq_true.mp dsX12_earing_0_ok (107, (.getfield 106, 3)) (List.mem_of_getElem? (i := 59) rfl))
def dsX12_earing_1 : List (Nat × Instr × Nat) := [(110, (.dup2, 1)), (111, (.iaload, 1)), (112, (.iconst 1, 1)), (113, (.iadd, 1)), (114, (.iastore, 1)), (115, (.return_, 1))]
theorem dsX12_earing_1_ok : (dsX12_earing_1.all fun q => decide (decode cX12_earing q.1 = .ok q.2)) = true := by decide +kernel
theorem dX12_earing_110 : decode cX12_earing 110 = .ok (.dup2, 1) := of_decide_eq_true (List.all_eq_true.mp dsX12_earing_1_ok (110, (.dup2, 1)) (List.mem_of_getElem? (i := 0) rfl))
theorem dX12_earing_111 : decode cX12_earing 111 = .ok (.iaload, 1) := of_decide_eq_true (List.all_eq_true.mp dsX12_earing_1_ok (111, (.iaload, 1)) (List.mem_of_getElem? (i := 1) rfl))
theorem dX12_earing_112 : decode cX12_earing 112 = .ok (.iconst 1, 1) := of_decide_eq_true (List.all_eq_true.mp dsX12_earing_1_ok (112, (.iconst 1, 1)) (List.mem_of_getElem? (i := 2) rfl))
theorem dX12_earing_113 : decode cX12_earing 113 = .ok (.iadd, 1) := of_decide_eq_true (List.all_eq_true.mp dsX12_earing_1_ok (113, (.iadd, 1)) (List.mem_of_getElem? (i := 3) rfl))
theorem dX12_earing_114 : decode cX12_earing 114 = .ok (.iastore, 1) := of_decide_eq_true (List.all_eq_true.mp dsX12_earing_1_ok (114, (.iastore, 1)) (List.mem_of_getElem? (i := 4) rfl))
theorem dX12_earing_115 : decode cX12_earing 115 = .ok (.return_, 1) := of_decide_eq_true (List.all_eq_true.mp dsX12_earing_1_ok (115, (.return_, 1)) (List.mem_of_getElem? (i := 5) rfl))
def fX12_earing_b20 (N : Nat) (mm_tapeF : Nat → Int32) (mm_placesF : Nat → Int32) (mm_placeNameL : Nat → Int64)   : ((Nat → Int32) × (Nat → Int64) × (Nat → Int32) × (Nat → Int64) × (Nat → Int32) × (Nat → Int32) × Int32) → Option ((Nat → Int32) × (Nat → Int64) × (Nat → Int32) × (Nat → Int64) × (Nat → Int32) × (Nat → Int32)) :=
  fun (mmI_20, mmJ_20, mm_earsF_20, mm_earNameL_20, mm_rowToldF_20, mm_sharpOfF_20, y1_20) => (xq_bd (fX12_isCounted N mmI_20 mmJ_20 mm_tapeF y1_20) fun (r_1_0, r_1_1, r_1_2) => (if r_1_0 = 0 then some ((r_1_1, r_1_2, mm_earsF_20, mm_earNameL_20, mm_rowToldF_20, mm_sharpOfF_20)) else (xq_bd (xq_ald 2 mm_earsF_20 (r_1_1 31)) fun v_3 => (xq_bd (fX12_fresh N r_1_1 r_1_2 mm_earsF_20 mm_earNameL_20 mm_placesF mm_placeNameL mm_tapeF) fun (r_4_0, r_4_1, r_4_2) => (xq_bd (xq_astL 14 mm_earNameL_20 ((7 * (r_1_1 31)) + v_3) r_4_0) fun g_6 => (xq_bd (fX12_must_ N r_4_1 r_4_2 mm_tapeF 7499639) fun (r_7_0, r_7_1) => (xq_bd (fX12_number N r_7_0 r_7_1 mm_tapeF 0 9) fun (r_9_0, r_9_1, r_9_2) => (xq_bd (xq_ast 14 mm_rowToldF_20 ((7 * (r_1_1 31)) + v_3) r_9_0) fun g_11 => (xq_bd (fX12_must_ N r_9_1 r_9_2 mm_tapeF 495672455792) fun (r_12_0, r_12_1) => (xq_bd (fX12_number N r_12_0 r_12_1 mm_tapeF 0 9) fun (r_14_0, r_14_1, r_14_2) => (xq_bd (xq_ast 14 mm_sharpOfF_20 ((7 * (r_1_1 31)) + v_3) r_14_0) fun g_16 => (if (r_14_1 8) = 0 then (xq_bd (xq_ald 2 mm_earsF_20 (r_14_1 31)) fun v_17 => (xq_bd (xq_ast 2 mm_earsF_20 (r_14_1 31) (v_17 + 1)) fun g_18 => some ((r_14_1, r_14_2, g_18, g_6, g_11, g_16)))) else some ((r_14_1, r_14_2, mm_earsF_20, g_6, g_11, g_16))))))))))))))
def fX12_earing (N : Nat) (mmI : Nat → Int32) (mmJ : Nat → Int64) (mm_earsF : Nat → Int32) (mm_tapeF : Nat → Int32) (mm_earNameL : Nat → Int64) (mm_placesF : Nat → Int32) (mm_placeNameL : Nat → Int64) (mm_rowToldF : Nat → Int32) (mm_sharpOfF : Nat → Int32)   : Option ((Nat → Int32) × (Nat → Int64) × (Nat → Int32) × (Nat → Int64) × (Nat → Int32) × (Nat → Int32)) :=
  (xq_bd (xq_ald 2 mm_earsF (mmI 31)) fun v_1 => (if v_1 = 7 then fX12_earing_b20 N mm_tapeF mm_placesF mm_placeNameL (mmI, mmJ, mm_earsF, mm_earNameL, mm_rowToldF, mm_sharpOfF, 1) else fX12_earing_b20 N mm_tapeF mm_placesF mm_placeNameL (mmI, mmJ, mm_earsF, mm_earNameL, mm_rowToldF, mm_sharpOfF, 0)))
set_option maxHeartbeats 4000000 in
set_option maxRecDepth 100000 in
theorem kX12_earing (l : Launch) (dC : Nat → ClassId) (dI : Nat → Nat → Nat) (cI cB cJ cZ cM : ClassId) (z : Nat) (ad : Nat → Nat) (N : Nat) (a_p0 : Nat) (mmI : Nat → Int32) (mmJ : Nat → Int64) (mmR : Nat → Nat) (mm_earsF : Nat → Int32) (mm_tapeF : Nat → Int32) (mm_earNameL : Nat → Int64) (mm_placesF : Nat → Int32) (mm_placeNameL : Nat → Int64) (mm_rowToldF : Nat → Int32) (mm_sharpOfF : Nat → Int32) {r0 : Nat → Int32} {r1 : Nat → Int64} {r2 : Nat → Int32} {r3 : Nat → Int64} {r4 : Nat → Int32} {r5 : Nat → Int32} (hf : fX12_earing N mmI mmJ mm_earsF mm_tapeF mm_earNameL mm_placesF mm_placeNameL mm_rowToldF mm_sharpOfF = some (r0, r1, r2, r3, r4, r5)) : xq_Ct l yX12_earing wsX12_earing { frames := 3, cells := 0, slots := 0, locals := 68 } (dC, dI) vwCl (xq_tys cI cB cJ cZ cM) z ad [.ref a_p0] [(a_p0, .inr (12, oX12 mmI mmJ mmR)), ((mmR 18), .inl (cI, 2, .inl mm_earsF)), ((mmR 0), .inl (cI, 1800, .inl mm_tapeF)), ((mmR 28), .inl (cJ, 14, .inr (.inl mm_earNameL))), ((mmR 21), .inl (cI, 2, .inl mm_placesF)), ((mmR 29), .inl (cJ, 12, .inr (.inl mm_placeNameL))), ((mmR 19), .inl (cI, 14, .inl mm_rowToldF)), ((mmR 20), .inl (cI, 14, .inl mm_sharpOfF))] [(a_p0, .inr (12, oX12 r0 r1 mmR)), ((mmR 18), .inl (cI, 2, .inl r2)), ((mmR 0), .inl (cI, 1800, .inl mm_tapeF)), ((mmR 28), .inl (cJ, 14, .inr (.inl r3))), ((mmR 21), .inl (cI, 2, .inl mm_placesF)), ((mmR 29), .inl (cJ, 12, .inr (.inl mm_placeNameL))), ((mmR 19), .inl (cI, 14, .inl r4)), ((mmR 20), .inl (cI, 14, .inl r5))] none := by
  intro sz
  refine Met.ofW (cc := cX12_earing) (maxL := 2) (ret := none) (by decide) rfl ?_
  intro p e s m args below meth c s₁ B hml hv
  obtain ⟨rfl, hsz, hP, hK, hD0, hE, hz⟩ := hv
  have hx := B.exec
  have hb := B.bytes
  have hr := B.returns
  have hts := atoms_spec (ws := wsX12_earing) B.pre
  have hown : s.vm.findClass RX12 = some m.cls := findClass_of_methodNamed B.named
  have hlocks := B.notSynchronized
  subst hsz
  have hD := hD0.self (sz := s.heap.size)
  have hN := xq_Env.of hE hz hD0
  generalize hAe : va_A [(a_p0, .inr (12, oX12 mmI mmJ mmR)), ((mmR 18), .inl (cI, 2, .inl mm_earsF)), ((mmR 0), .inl (cI, 1800, .inl mm_tapeF)), ((mmR 28), .inl (cJ, 14, .inr (.inl mm_earNameL))), ((mmR 21), .inl (cI, 2, .inl mm_placesF)), ((mmR 29), .inl (cJ, 12, .inr (.inl mm_placeNameL))), ((mmR 19), .inl (cI, 14, .inl mm_rowToldF)), ((mmR 20), .inl (cI, 14, .inl mm_sharpOfF))] s.heap.size = A at hD hN ⊢
  have hA : ∀ q : Nat, s.heap.size ≤ q → A q := fun q h => by rw [← hAe]; exact Or.inr h
  clear hAe hD0
  have hS : va_S A s.heap s.heap [] := va_S.rf
  have hl := lv_entry ([.ref a_p0]) (n := 2) (Nat.le_of_ble_eq_true rfl)
  rw [lg_entry_eq]
  generalize (lg_sl ([.ref a_p0]) ++ List.replicate (2 - (lg_sl ([.ref a_p0])).length) Slot.unset).toArray = ls at hl ⊢
  have hl : lv_has ls 2 [(0, .ref a_p0)] := hl
  have hw0 := hts (.fieldLink RX12 66 "DistantVoiceModel" "ears" "[I") (by decide +kernel)
  have hinX12 : ∀ w ∈ wsX120, w ∈ wsX12_earing := fun w h => List.mem_cons_of_mem _ (List.mem_append_right _ h)
  have hw2 := hts (.fieldLink RX12 106 "DistantVoiceModel" "in" "I") (by decide +kernel)
  have hw3 := hts (.fieldLink RX12 96 "DistantVoiceModel" "earName" "[J") (by decide +kernel)
  have hw4 := hts (.constantLong RX12 263 (7499639)) (by decide +kernel)
  have hw5 := hts (.fieldLink RX12 69 "DistantVoiceModel" "rowTold" "[I") (by decide +kernel)
  have hw6 := hts (.constantLong RX12 265 (495672455792)) (by decide +kernel)
  have hw7 := hts (.fieldLink RX12 72 "DistantVoiceModel" "sharpOf" "[I") (by decide +kernel)
  have hw8 := hts (.fieldLink RX12 36 "DistantVoiceModel" "faultKind" "I") (by decide +kernel)
  have b20 : ∀ (mmI_20 : Nat → Int32) (mmJ_20 : Nat → Int64) (mm_earsF_20 : Nat → Int32) (mm_earNameL_20 : Nat → Int64) (mm_rowToldF_20 : Nat → Int32) (mm_sharpOfF_20 : Nat → Int32) (y1_20 : Int32) (ls : Array Slot) (H : Heap) (locs : List Loc), fX12_earing_b20 N mm_tapeF mm_placesF mm_placeNameL (mmI_20, mmJ_20, mm_earsF_20, mm_earNameL_20, mm_rowToldF_20, mm_sharpOfF_20, y1_20) = some (r0, r1, r2, r3, r4, r5) → va_P (dC, dI) vwCl [(a_p0, .inr (12, oX12 mmI_20 mmJ_20 mmR)), ((mmR 18), .inl (cI, 2, .inl mm_earsF_20)), ((mmR 0), .inl (cI, 1800, .inl mm_tapeF)), ((mmR 28), .inl (cJ, 14, .inr (.inl mm_earNameL_20))), ((mmR 21), .inl (cI, 2, .inl mm_placesF)), ((mmR 29), .inl (cJ, 12, .inr (.inl mm_placeNameL))), ((mmR 19), .inl (cI, 14, .inl mm_rowToldF_20)), ((mmR 20), .inl (cI, 14, .inl mm_sharpOfF_20))] H → va_D A [(a_p0, .inr (12, oX12 mmI_20 mmJ_20 mmR)), ((mmR 18), .inl (cI, 2, .inl mm_earsF_20)), ((mmR 0), .inl (cI, 1800, .inl mm_tapeF)), ((mmR 28), .inl (cJ, 14, .inr (.inl mm_earNameL_20))), ((mmR 21), .inl (cI, 2, .inl mm_placesF)), ((mmR 29), .inl (cJ, 12, .inr (.inl mm_placeNameL))), ((mmR 19), .inl (cI, 14, .inl mm_rowToldF_20)), ((mmR 20), .inl (cI, 14, .inl mm_sharpOfF_20))] → va_S A s.heap H locs → lv_has ls 2 [(0, .ref a_p0)] → W p l e (headSpec wsX12_earing { frames := 3, cells := 0, slots := 0, locals := 68 }).room s m [.ref a_p0].toArray below meth c H locs 0 0 (MQ below (xq_Q (dC, dI) vwCl (xq_tys cI cB cJ cZ cM) A [(a_p0, .inr (12, oX12 r0 r1 mmR)), ((mmR 18), .inl (cI, 2, .inl r2)), ((mmR 0), .inl (cI, 1800, .inl mm_tapeF)), ((mmR 28), .inl (cJ, 14, .inr (.inl r3))), ((mmR 21), .inl (cI, 2, .inl mm_placesF)), ((mmR 29), .inl (cJ, 12, .inr (.inl mm_placeNameL))), ((mmR 19), .inl (cI, 14, .inl r4)), ((mmR 20), .inl (cI, 14, .inl r5))] none) [.ref a_p0].toArray s 0 0 A) (F0 m 20 ls [.int y1_20, .ref a_p0]) := by
    intro mmI_20 mmJ_20 mm_earsF_20 mm_earNameL_20 mm_rowToldF_20 mm_sharpOfF_20 y1_20 ls H locs hf hP hD hS hl
    unfold fX12_earing_b20 at hf
    obtain ⟨⟨r_1_0, r_1_1, r_1_2⟩, h_2, hf⟩ := xq_bd_some hf
    refine xq_callV (As := [.int y1_20]) (rest := []) (ci := 12) (q0 := 0) ⟨hx, hb, hml, hown, hts⟩ (kX12_isCounted l dC dI cI cB cJ cZ cM z ad N a_p0 mmI_20 mmJ_20 mmR mm_tapeF y1_20 h_2) (cwV 1 hts gX12_earing_X12_isCounted rfl rfl rfl (by decide +kernel) ⟨Nat.le_of_ble_eq_true rfl, Nat.le_of_ble_eq_true rfl⟩) hN hK hP hD hS hA [0, 2] (by decide) rfl rfl rfl rfl rfl rfl hl.1 rfl (Nat.le_of_ble_eq_true rfl) dX12_earing_20 ⟨Nat.zero_le _, Nat.zero_le _⟩ (fun H locs hP hD hS => ?_)
    have hP : va_P (dC, dI) vwCl [(a_p0, .inr (12, oX12 r_1_1 r_1_2 mmR)), ((mmR 18), .inl (cI, 2, .inl mm_earsF_20)), ((mmR 0), .inl (cI, 1800, .inl mm_tapeF)), ((mmR 28), .inl (cJ, 14, .inr (.inl mm_earNameL_20))), ((mmR 21), .inl (cI, 2, .inl mm_placesF)), ((mmR 29), .inl (cJ, 12, .inr (.inl mm_placeNameL))), ((mmR 19), .inl (cI, 14, .inl mm_rowToldF_20)), ((mmR 20), .inl (cI, 14, .inl mm_sharpOfF_20))] H := hP
    have hD : va_D A [(a_p0, .inr (12, oX12 r_1_1 r_1_2 mmR)), ((mmR 18), .inl (cI, 2, .inl mm_earsF_20)), ((mmR 0), .inl (cI, 1800, .inl mm_tapeF)), ((mmR 28), .inl (cJ, 14, .inr (.inl mm_earNameL_20))), ((mmR 21), .inl (cI, 2, .inl mm_placesF)), ((mmR 29), .inl (cJ, 12, .inr (.inl mm_placeNameL))), ((mmR 19), .inl (cI, 14, .inl mm_rowToldF_20)), ((mmR 20), .inl (cI, 14, .inl mm_sharpOfF_20))] := hD
    refine W.eq (g2 := F0 m 23 ls [.int r_1_0]) rfl ?_
    refine lv_if_ne (tgt := 27) hx hb dX12_earing_23 (by decide) (fun c_ => ?_) (fun c_ => ?_)
    · have hf := xq_neg hf c_
      refine lv_bipush (v := 7) hx hb dX12_earing_27 (by decide) ?_
      refine lv_aload_n hx hb dX12_earing_29 rfl (lv_at hl 0 rfl) ?_
      refine va_get (D := (dC, dI)) (ci := 12) (v := .int (r_1_1 31)) (C := RX12) (T := TX12) (N := 70) hx hb hts hinX12 hown hK hP 0 rfl rfl 31 (by decide) hw2 (fun _ h9 => h9) rfl dX12_earing_30 ?_
      refine lv_imul hx hb dX12_earing_33 ?_
      refine lv_aload_n hx hb dX12_earing_34 rfl (lv_at hl 0 rfl) ?_
      refine va_get (D := (dC, dI)) (ci := 12) (v := .ref ((mmR 18))) (C := RX12) (T := TX12) (N := 70) hx hb hts hinX12 hown hK hP 0 rfl rfl 18 (by decide) hw0 (fun _ h9 => h9) rfl dX12_earing_35 ?_
      refine lv_aload_n hx hb dX12_earing_38 rfl (lv_at hl 0 rfl) ?_
      refine va_get (D := (dC, dI)) (ci := 12) (v := .int (r_1_1 31)) (C := RX12) (T := TX12) (N := 70) hx hb hts hinX12 hown hK hP 0 rfl rfl 31 (by decide) hw2 (fun _ h9 => h9) rfl dX12_earing_39 ?_
      refine xq_iald hx hb hK hP 1 0 rfl rfl hf dX12_earing_42 (fun v_3 hf => ?_)
      refine lv_iadd hx hb dX12_earing_43 ?_
      refine lv_istore_n (lv' := [(1, .int ((7 * (r_1_1 31)) + v_3)), (0, .ref a_p0)]) hx hb dX12_earing_44 rfl hl (by decide) rfl (fun ls hl => ?_)
      refine lv_aload_n hx hb dX12_earing_45 rfl (lv_at hl 1 rfl) ?_
      refine va_get (D := (dC, dI)) (ci := 12) (v := .ref ((mmR 28))) (C := RX12) (T := TX12) (N := 70) hx hb hts hinX12 hown hK hP 0 rfl rfl 28 (by decide) hw3 (fun _ h9 => h9) rfl dX12_earing_46 ?_
      refine lv_iload_n hx hb dX12_earing_49 rfl (lv_at hl 0 rfl) ?_
      refine lv_aload_n hx hb dX12_earing_50 rfl (lv_at hl 1 rfl) ?_
      obtain ⟨⟨r_4_0, r_4_1, r_4_2⟩, h_5, hf⟩ := xq_bd_some hf
      refine xq_callV (As := []) (rest := [.int ((7 * (r_1_1 31)) + v_3), .ref ((mmR 28))]) (ci := 12) (q0 := 0) ⟨hx, hb, hml, hown, hts⟩ (kX12_fresh l dC dI cI cB cJ cZ cM z ad N a_p0 r_1_1 r_1_2 mmR mm_earsF_20 mm_earNameL_20 mm_placesF mm_placeNameL mm_tapeF h_5) (cwV 0 hts gX12_earing_X12_fresh rfl rfl rfl (by decide +kernel) ⟨Nat.le_of_ble_eq_true rfl, Nat.le_of_ble_eq_true rfl⟩) hN hK hP hD hS hA [0, 1, 3, 4, 5, 2] (by decide) rfl rfl rfl rfl rfl rfl hl.1 rfl (Nat.le_of_ble_eq_true rfl) dX12_earing_51 ⟨Nat.zero_le _, Nat.zero_le _⟩ (fun H locs hP hD hS => ?_)
      have hP : va_P (dC, dI) vwCl [(a_p0, .inr (12, oX12 r_4_1 r_4_2 mmR)), ((mmR 18), .inl (cI, 2, .inl mm_earsF_20)), ((mmR 0), .inl (cI, 1800, .inl mm_tapeF)), ((mmR 28), .inl (cJ, 14, .inr (.inl mm_earNameL_20))), ((mmR 21), .inl (cI, 2, .inl mm_placesF)), ((mmR 29), .inl (cJ, 12, .inr (.inl mm_placeNameL))), ((mmR 19), .inl (cI, 14, .inl mm_rowToldF_20)), ((mmR 20), .inl (cI, 14, .inl mm_sharpOfF_20))] H := hP
      have hD : va_D A [(a_p0, .inr (12, oX12 r_4_1 r_4_2 mmR)), ((mmR 18), .inl (cI, 2, .inl mm_earsF_20)), ((mmR 0), .inl (cI, 1800, .inl mm_tapeF)), ((mmR 28), .inl (cJ, 14, .inr (.inl mm_earNameL_20))), ((mmR 21), .inl (cI, 2, .inl mm_placesF)), ((mmR 29), .inl (cJ, 12, .inr (.inl mm_placeNameL))), ((mmR 19), .inl (cI, 14, .inl mm_rowToldF_20)), ((mmR 20), .inl (cI, 14, .inl mm_sharpOfF_20))] := hD
      refine W.eq (g2 := F0 m 54 ls [.long r_4_0, .int ((7 * (r_1_1 31)) + v_3), .ref ((mmR 28))]) rfl ?_
      refine xq_last hx hb hK hP hD hS 3 2 rfl rfl hf dX12_earing_54 (fun g_6 H locs hf hP hD hS => ?_)
      have hP : va_P (dC, dI) vwCl [(a_p0, .inr (12, oX12 r_4_1 r_4_2 mmR)), ((mmR 18), .inl (cI, 2, .inl mm_earsF_20)), ((mmR 0), .inl (cI, 1800, .inl mm_tapeF)), ((mmR 28), .inl (cJ, 14, .inr (.inl g_6))), ((mmR 21), .inl (cI, 2, .inl mm_placesF)), ((mmR 29), .inl (cJ, 12, .inr (.inl mm_placeNameL))), ((mmR 19), .inl (cI, 14, .inl mm_rowToldF_20)), ((mmR 20), .inl (cI, 14, .inl mm_sharpOfF_20))] H := hP
      have hD : va_D A [(a_p0, .inr (12, oX12 r_4_1 r_4_2 mmR)), ((mmR 18), .inl (cI, 2, .inl mm_earsF_20)), ((mmR 0), .inl (cI, 1800, .inl mm_tapeF)), ((mmR 28), .inl (cJ, 14, .inr (.inl g_6))), ((mmR 21), .inl (cI, 2, .inl mm_placesF)), ((mmR 29), .inl (cJ, 12, .inr (.inl mm_placeNameL))), ((mmR 19), .inl (cI, 14, .inl mm_rowToldF_20)), ((mmR 20), .inl (cI, 14, .inl mm_sharpOfF_20))] := hD
      refine lv_aload_n hx hb dX12_earing_55 rfl (lv_at hl 1 rfl) ?_
      refine lv_ldc2 (v := 7499639) hx hb hown hw4 dX12_earing_56 ?_
      obtain ⟨⟨r_7_0, r_7_1⟩, h_8, hf⟩ := xq_bd_some hf
      refine xq_callV (As := [.long 7499639]) (rest := []) (ci := 12) (q0 := 0) ⟨hx, hb, hml, hown, hts⟩ (kX12_must_ l dC dI cI cB cJ cZ cM z ad N a_p0 r_4_1 r_4_2 mmR mm_tapeF 7499639 h_8) (cwV 1 hts gX12_earing_X12_must_ rfl rfl rfl (by decide +kernel) ⟨Nat.le_of_ble_eq_true rfl, Nat.le_of_ble_eq_true rfl⟩) hN hK hP hD hS hA [0, 2] (by decide) rfl rfl rfl rfl rfl rfl hl.1 rfl (Nat.le_of_ble_eq_true rfl) dX12_earing_59 ⟨Nat.zero_le _, Nat.zero_le _⟩ (fun H locs hP hD hS => ?_)
      have hP : va_P (dC, dI) vwCl [(a_p0, .inr (12, oX12 r_7_0 r_7_1 mmR)), ((mmR 18), .inl (cI, 2, .inl mm_earsF_20)), ((mmR 0), .inl (cI, 1800, .inl mm_tapeF)), ((mmR 28), .inl (cJ, 14, .inr (.inl g_6))), ((mmR 21), .inl (cI, 2, .inl mm_placesF)), ((mmR 29), .inl (cJ, 12, .inr (.inl mm_placeNameL))), ((mmR 19), .inl (cI, 14, .inl mm_rowToldF_20)), ((mmR 20), .inl (cI, 14, .inl mm_sharpOfF_20))] H := hP
      have hD : va_D A [(a_p0, .inr (12, oX12 r_7_0 r_7_1 mmR)), ((mmR 18), .inl (cI, 2, .inl mm_earsF_20)), ((mmR 0), .inl (cI, 1800, .inl mm_tapeF)), ((mmR 28), .inl (cJ, 14, .inr (.inl g_6))), ((mmR 21), .inl (cI, 2, .inl mm_placesF)), ((mmR 29), .inl (cJ, 12, .inr (.inl mm_placeNameL))), ((mmR 19), .inl (cI, 14, .inl mm_rowToldF_20)), ((mmR 20), .inl (cI, 14, .inl mm_sharpOfF_20))] := hD
      refine W.eq (g2 := F0 m 62 ls []) rfl ?_
      refine lv_aload_n hx hb dX12_earing_62 rfl (lv_at hl 1 rfl) ?_
      refine va_get (D := (dC, dI)) (ci := 12) (v := .ref ((mmR 19))) (C := RX12) (T := TX12) (N := 70) hx hb hts hinX12 hown hK hP 0 rfl rfl 19 (by decide) hw5 (fun _ h9 => h9) rfl dX12_earing_63 ?_
      refine lv_iload_n hx hb dX12_earing_66 rfl (lv_at hl 0 rfl) ?_
      refine lv_aload_n hx hb dX12_earing_67 rfl (lv_at hl 1 rfl) ?_
      refine lv_iconst (v := 0) hx hb dX12_earing_68 (by decide) ?_
      refine lv_bipush (v := 9) hx hb dX12_earing_69 (by decide) ?_
      obtain ⟨⟨r_9_0, r_9_1, r_9_2⟩, h_10, hf⟩ := xq_bd_some hf
      refine xq_callV (As := [.int 0, .int 9]) (rest := [.int ((7 * (r_1_1 31)) + v_3), .ref ((mmR 19))]) (ci := 12) (q0 := 0) ⟨hx, hb, hml, hown, hts⟩ (kX12_number l dC dI cI cB cJ cZ cM z ad N a_p0 r_7_0 r_7_1 mmR mm_tapeF 0 9 h_10) (cwV 2 hts gX12_earing_X12_number rfl rfl rfl (by decide +kernel) ⟨Nat.le_of_ble_eq_true rfl, Nat.le_of_ble_eq_true rfl⟩) hN hK hP hD hS hA [0, 2] (by decide) rfl rfl rfl rfl rfl rfl hl.1 rfl (Nat.le_of_ble_eq_true rfl) dX12_earing_71 ⟨Nat.zero_le _, Nat.zero_le _⟩ (fun H locs hP hD hS => ?_)
      have hP : va_P (dC, dI) vwCl [(a_p0, .inr (12, oX12 r_9_1 r_9_2 mmR)), ((mmR 18), .inl (cI, 2, .inl mm_earsF_20)), ((mmR 0), .inl (cI, 1800, .inl mm_tapeF)), ((mmR 28), .inl (cJ, 14, .inr (.inl g_6))), ((mmR 21), .inl (cI, 2, .inl mm_placesF)), ((mmR 29), .inl (cJ, 12, .inr (.inl mm_placeNameL))), ((mmR 19), .inl (cI, 14, .inl mm_rowToldF_20)), ((mmR 20), .inl (cI, 14, .inl mm_sharpOfF_20))] H := hP
      have hD : va_D A [(a_p0, .inr (12, oX12 r_9_1 r_9_2 mmR)), ((mmR 18), .inl (cI, 2, .inl mm_earsF_20)), ((mmR 0), .inl (cI, 1800, .inl mm_tapeF)), ((mmR 28), .inl (cJ, 14, .inr (.inl g_6))), ((mmR 21), .inl (cI, 2, .inl mm_placesF)), ((mmR 29), .inl (cJ, 12, .inr (.inl mm_placeNameL))), ((mmR 19), .inl (cI, 14, .inl mm_rowToldF_20)), ((mmR 20), .inl (cI, 14, .inl mm_sharpOfF_20))] := hD
      refine W.eq (g2 := F0 m 74 ls [.int r_9_0, .int ((7 * (r_1_1 31)) + v_3), .ref ((mmR 19))]) rfl ?_
      refine xq_iast hx hb hK hP hD hS 6 0 rfl rfl hf dX12_earing_74 (fun g_11 H locs hf hP hD hS => ?_)
      have hP : va_P (dC, dI) vwCl [(a_p0, .inr (12, oX12 r_9_1 r_9_2 mmR)), ((mmR 18), .inl (cI, 2, .inl mm_earsF_20)), ((mmR 0), .inl (cI, 1800, .inl mm_tapeF)), ((mmR 28), .inl (cJ, 14, .inr (.inl g_6))), ((mmR 21), .inl (cI, 2, .inl mm_placesF)), ((mmR 29), .inl (cJ, 12, .inr (.inl mm_placeNameL))), ((mmR 19), .inl (cI, 14, .inl g_11)), ((mmR 20), .inl (cI, 14, .inl mm_sharpOfF_20))] H := hP
      have hD : va_D A [(a_p0, .inr (12, oX12 r_9_1 r_9_2 mmR)), ((mmR 18), .inl (cI, 2, .inl mm_earsF_20)), ((mmR 0), .inl (cI, 1800, .inl mm_tapeF)), ((mmR 28), .inl (cJ, 14, .inr (.inl g_6))), ((mmR 21), .inl (cI, 2, .inl mm_placesF)), ((mmR 29), .inl (cJ, 12, .inr (.inl mm_placeNameL))), ((mmR 19), .inl (cI, 14, .inl g_11)), ((mmR 20), .inl (cI, 14, .inl mm_sharpOfF_20))] := hD
      refine lv_aload_n hx hb dX12_earing_75 rfl (lv_at hl 1 rfl) ?_
      refine lv_ldc2 (v := 495672455792) hx hb hown hw6 dX12_earing_76 ?_
      obtain ⟨⟨r_12_0, r_12_1⟩, h_13, hf⟩ := xq_bd_some hf
      refine xq_callV (As := [.long 495672455792]) (rest := []) (ci := 12) (q0 := 0) ⟨hx, hb, hml, hown, hts⟩ (kX12_must_ l dC dI cI cB cJ cZ cM z ad N a_p0 r_9_1 r_9_2 mmR mm_tapeF 495672455792 h_13) (cwV 1 hts gX12_earing_X12_must_ rfl rfl rfl (by decide +kernel) ⟨Nat.le_of_ble_eq_true rfl, Nat.le_of_ble_eq_true rfl⟩) hN hK hP hD hS hA [0, 2] (by decide) rfl rfl rfl rfl rfl rfl hl.1 rfl (Nat.le_of_ble_eq_true rfl) dX12_earing_79 ⟨Nat.zero_le _, Nat.zero_le _⟩ (fun H locs hP hD hS => ?_)
      have hP : va_P (dC, dI) vwCl [(a_p0, .inr (12, oX12 r_12_0 r_12_1 mmR)), ((mmR 18), .inl (cI, 2, .inl mm_earsF_20)), ((mmR 0), .inl (cI, 1800, .inl mm_tapeF)), ((mmR 28), .inl (cJ, 14, .inr (.inl g_6))), ((mmR 21), .inl (cI, 2, .inl mm_placesF)), ((mmR 29), .inl (cJ, 12, .inr (.inl mm_placeNameL))), ((mmR 19), .inl (cI, 14, .inl g_11)), ((mmR 20), .inl (cI, 14, .inl mm_sharpOfF_20))] H := hP
      have hD : va_D A [(a_p0, .inr (12, oX12 r_12_0 r_12_1 mmR)), ((mmR 18), .inl (cI, 2, .inl mm_earsF_20)), ((mmR 0), .inl (cI, 1800, .inl mm_tapeF)), ((mmR 28), .inl (cJ, 14, .inr (.inl g_6))), ((mmR 21), .inl (cI, 2, .inl mm_placesF)), ((mmR 29), .inl (cJ, 12, .inr (.inl mm_placeNameL))), ((mmR 19), .inl (cI, 14, .inl g_11)), ((mmR 20), .inl (cI, 14, .inl mm_sharpOfF_20))] := hD
      refine W.eq (g2 := F0 m 82 ls []) rfl ?_
      refine lv_aload_n hx hb dX12_earing_82 rfl (lv_at hl 1 rfl) ?_
      refine va_get (D := (dC, dI)) (ci := 12) (v := .ref ((mmR 20))) (C := RX12) (T := TX12) (N := 70) hx hb hts hinX12 hown hK hP 0 rfl rfl 20 (by decide) hw7 (fun _ h9 => h9) rfl dX12_earing_83 ?_
      refine lv_iload_n hx hb dX12_earing_86 rfl (lv_at hl 0 rfl) ?_
      refine lv_aload_n hx hb dX12_earing_87 rfl (lv_at hl 1 rfl) ?_
      refine lv_iconst (v := 0) hx hb dX12_earing_88 (by decide) ?_
      refine lv_bipush (v := 9) hx hb dX12_earing_89 (by decide) ?_
      obtain ⟨⟨r_14_0, r_14_1, r_14_2⟩, h_15, hf⟩ := xq_bd_some hf
      refine xq_callV (As := [.int 0, .int 9]) (rest := [.int ((7 * (r_1_1 31)) + v_3), .ref ((mmR 20))]) (ci := 12) (q0 := 0) ⟨hx, hb, hml, hown, hts⟩ (kX12_number l dC dI cI cB cJ cZ cM z ad N a_p0 r_12_0 r_12_1 mmR mm_tapeF 0 9 h_15) (cwV 2 hts gX12_earing_X12_number rfl rfl rfl (by decide +kernel) ⟨Nat.le_of_ble_eq_true rfl, Nat.le_of_ble_eq_true rfl⟩) hN hK hP hD hS hA [0, 2] (by decide) rfl rfl rfl rfl rfl rfl hl.1 rfl (Nat.le_of_ble_eq_true rfl) dX12_earing_91 ⟨Nat.zero_le _, Nat.zero_le _⟩ (fun H locs hP hD hS => ?_)
      have hP : va_P (dC, dI) vwCl [(a_p0, .inr (12, oX12 r_14_1 r_14_2 mmR)), ((mmR 18), .inl (cI, 2, .inl mm_earsF_20)), ((mmR 0), .inl (cI, 1800, .inl mm_tapeF)), ((mmR 28), .inl (cJ, 14, .inr (.inl g_6))), ((mmR 21), .inl (cI, 2, .inl mm_placesF)), ((mmR 29), .inl (cJ, 12, .inr (.inl mm_placeNameL))), ((mmR 19), .inl (cI, 14, .inl g_11)), ((mmR 20), .inl (cI, 14, .inl mm_sharpOfF_20))] H := hP
      have hD : va_D A [(a_p0, .inr (12, oX12 r_14_1 r_14_2 mmR)), ((mmR 18), .inl (cI, 2, .inl mm_earsF_20)), ((mmR 0), .inl (cI, 1800, .inl mm_tapeF)), ((mmR 28), .inl (cJ, 14, .inr (.inl g_6))), ((mmR 21), .inl (cI, 2, .inl mm_placesF)), ((mmR 29), .inl (cJ, 12, .inr (.inl mm_placeNameL))), ((mmR 19), .inl (cI, 14, .inl g_11)), ((mmR 20), .inl (cI, 14, .inl mm_sharpOfF_20))] := hD
      refine W.eq (g2 := F0 m 94 ls [.int r_14_0, .int ((7 * (r_1_1 31)) + v_3), .ref ((mmR 20))]) rfl ?_
      refine xq_iast hx hb hK hP hD hS 7 0 rfl rfl hf dX12_earing_94 (fun g_16 H locs hf hP hD hS => ?_)
      have hP : va_P (dC, dI) vwCl [(a_p0, .inr (12, oX12 r_14_1 r_14_2 mmR)), ((mmR 18), .inl (cI, 2, .inl mm_earsF_20)), ((mmR 0), .inl (cI, 1800, .inl mm_tapeF)), ((mmR 28), .inl (cJ, 14, .inr (.inl g_6))), ((mmR 21), .inl (cI, 2, .inl mm_placesF)), ((mmR 29), .inl (cJ, 12, .inr (.inl mm_placeNameL))), ((mmR 19), .inl (cI, 14, .inl g_11)), ((mmR 20), .inl (cI, 14, .inl g_16))] H := hP
      have hD : va_D A [(a_p0, .inr (12, oX12 r_14_1 r_14_2 mmR)), ((mmR 18), .inl (cI, 2, .inl mm_earsF_20)), ((mmR 0), .inl (cI, 1800, .inl mm_tapeF)), ((mmR 28), .inl (cJ, 14, .inr (.inl g_6))), ((mmR 21), .inl (cI, 2, .inl mm_placesF)), ((mmR 29), .inl (cJ, 12, .inr (.inl mm_placeNameL))), ((mmR 19), .inl (cI, 14, .inl g_11)), ((mmR 20), .inl (cI, 14, .inl g_16))] := hD
      refine lv_aload_n hx hb dX12_earing_95 rfl (lv_at hl 1 rfl) ?_
      refine va_get (D := (dC, dI)) (ci := 12) (v := .int (r_14_1 8)) (C := RX12) (T := TX12) (N := 70) hx hb hts hinX12 hown hK hP 0 rfl rfl 8 (by decide) hw8 (fun _ h9 => h9) rfl dX12_earing_96 ?_
      refine lv_if_ne (tgt := 115) hx hb dX12_earing_99 (by decide) (fun c_ => ?_) (fun c_ => ?_)
      · have hf := xq_neg hf c_
        have e9 := Option.some.inj hf
        have e9_0 : r_14_1 = r0 := congrArg (fun t => t.1) e9
        have e9_1 : r_14_2 = r1 := congrArg (fun t => t.2.1) e9
        have e9_2 : mm_earsF_20 = r2 := congrArg (fun t => t.2.2.1) e9
        have e9_3 : g_6 = r3 := congrArg (fun t => t.2.2.2.1) e9
        have e9_4 : g_11 = r4 := congrArg (fun t => t.2.2.2.2.1) e9
        have e9_5 : g_16 = r5 := congrArg (fun t => t.2.2.2.2.2) e9
        clear e9 hf
        try clear b20
        subst e9_0
        subst e9_1
        subst e9_2
        subst e9_3
        subst e9_4
        subst e9_5
        exact xq_vret hx hb hr hlocks hK hP hD hS dX12_earing_115
      · have hf := xq_pos hf c_
        refine lv_aload_n hx hb dX12_earing_102 rfl (lv_at hl 1 rfl) ?_
        refine va_get (D := (dC, dI)) (ci := 12) (v := .ref ((mmR 18))) (C := RX12) (T := TX12) (N := 70) hx hb hts hinX12 hown hK hP 0 rfl rfl 18 (by decide) hw0 (fun _ h9 => h9) rfl dX12_earing_103 ?_
        refine lv_aload_n hx hb dX12_earing_106 rfl (lv_at hl 1 rfl) ?_
        refine va_get (D := (dC, dI)) (ci := 12) (v := .int (r_14_1 31)) (C := RX12) (T := TX12) (N := 70) hx hb hts hinX12 hown hK hP 0 rfl rfl 31 (by decide) hw2 (fun _ h9 => h9) rfl dX12_earing_107 ?_
        refine lv_dup2_11 hx hb dX12_earing_110 rfl rfl ?_
        refine xq_iald hx hb hK hP 1 0 rfl rfl hf dX12_earing_111 (fun v_17 hf => ?_)
        refine lv_iconst (v := 1) hx hb dX12_earing_112 (by decide) ?_
        refine lv_iadd hx hb dX12_earing_113 ?_
        refine xq_iast hx hb hK hP hD hS 1 0 rfl rfl hf dX12_earing_114 (fun g_18 H locs hf hP hD hS => ?_)
        have hP : va_P (dC, dI) vwCl [(a_p0, .inr (12, oX12 r_14_1 r_14_2 mmR)), ((mmR 18), .inl (cI, 2, .inl g_18)), ((mmR 0), .inl (cI, 1800, .inl mm_tapeF)), ((mmR 28), .inl (cJ, 14, .inr (.inl g_6))), ((mmR 21), .inl (cI, 2, .inl mm_placesF)), ((mmR 29), .inl (cJ, 12, .inr (.inl mm_placeNameL))), ((mmR 19), .inl (cI, 14, .inl g_11)), ((mmR 20), .inl (cI, 14, .inl g_16))] H := hP
        have hD : va_D A [(a_p0, .inr (12, oX12 r_14_1 r_14_2 mmR)), ((mmR 18), .inl (cI, 2, .inl g_18)), ((mmR 0), .inl (cI, 1800, .inl mm_tapeF)), ((mmR 28), .inl (cJ, 14, .inr (.inl g_6))), ((mmR 21), .inl (cI, 2, .inl mm_placesF)), ((mmR 29), .inl (cJ, 12, .inr (.inl mm_placeNameL))), ((mmR 19), .inl (cI, 14, .inl g_11)), ((mmR 20), .inl (cI, 14, .inl g_16))] := hD
        have e9 := Option.some.inj hf
        have e9_0 : r_14_1 = r0 := congrArg (fun t => t.1) e9
        have e9_1 : r_14_2 = r1 := congrArg (fun t => t.2.1) e9
        have e9_2 : g_18 = r2 := congrArg (fun t => t.2.2.1) e9
        have e9_3 : g_6 = r3 := congrArg (fun t => t.2.2.2.1) e9
        have e9_4 : g_11 = r4 := congrArg (fun t => t.2.2.2.2.1) e9
        have e9_5 : g_16 = r5 := congrArg (fun t => t.2.2.2.2.2) e9
        clear e9 hf
        try clear b20
        subst e9_0
        subst e9_1
        subst e9_2
        subst e9_3
        subst e9_4
        subst e9_5
        exact xq_vret hx hb hr hlocks hK hP hD hS dX12_earing_115
    · have hf := xq_pos hf c_
      have e9 := Option.some.inj hf
      have e9_0 : r_1_1 = r0 := congrArg (fun t => t.1) e9
      have e9_1 : r_1_2 = r1 := congrArg (fun t => t.2.1) e9
      have e9_2 : mm_earsF_20 = r2 := congrArg (fun t => t.2.2.1) e9
      have e9_3 : mm_earNameL_20 = r3 := congrArg (fun t => t.2.2.2.1) e9
      have e9_4 : mm_rowToldF_20 = r4 := congrArg (fun t => t.2.2.2.2.1) e9
      have e9_5 : mm_sharpOfF_20 = r5 := congrArg (fun t => t.2.2.2.2.2) e9
      clear e9 hf
      try clear b20
      subst e9_0
      subst e9_1
      subst e9_2
      subst e9_3
      subst e9_4
      subst e9_5
      exact xq_vret hx hb hr hlocks hK hP hD hS dX12_earing_26
  unfold fX12_earing at hf
  refine lv_aload_n hx hb dX12_earing_0 rfl (lv_at hl 0 rfl) ?_
  refine lv_aload_n hx hb dX12_earing_1 rfl (lv_at hl 0 rfl) ?_
  refine va_get (D := (dC, dI)) (ci := 12) (v := .ref ((mmR 18))) (C := RX12) (T := TX12) (N := 70) hx hb hts hinX12 hown hK hP 0 rfl rfl 18 (by decide) hw0 (fun _ h9 => h9) rfl dX12_earing_2 ?_
  refine lv_aload_n hx hb dX12_earing_5 rfl (lv_at hl 0 rfl) ?_
  refine va_get (D := (dC, dI)) (ci := 12) (v := .int (mmI 31)) (C := RX12) (T := TX12) (N := 70) hx hb hts hinX12 hown hK hP 0 rfl rfl 31 (by decide) hw2 (fun _ h9 => h9) rfl dX12_earing_6 ?_
  refine xq_iald hx hb hK hP 1 0 rfl rfl hf dX12_earing_9 (fun v_1 hf => ?_)
  refine lv_bipush (v := 7) hx hb dX12_earing_10 (by decide) ?_
  refine lv_icmp_ne (tgt := 19) hx hb dX12_earing_12 (by decide) (fun c_ => ?_) (fun c_ => ?_)
  · have hf := xq_neg hf c_
    refine lv_iconst (v := 0) hx hb dX12_earing_19 (by decide) ?_
    exact b20 mmI mmJ mm_earsF mm_earNameL mm_rowToldF mm_sharpOfF 0 _ _ _ hf hP hD hS (lv_sub hl [0] rfl)
  · have hf := xq_pos hf c_
    refine lv_iconst (v := 1) hx hb dX12_earing_15 (by decide) ?_
    refine lv_goto (tgt := 20) hx hb dX12_earing_16 (by decide) ?_
    exact b20 mmI mmJ mm_earsF mm_earNameL mm_rowToldF mm_sharpOfF 1 _ _ _ hf hP hD hS (lv_sub hl [0] rfl)
def dsX12_isPlaceAt_0 : List (Nat × Instr × Nat) := [(0, (.iconst 0, 1)), (1, (.istore_n 2, 1)), (2, (.iload_n 2, 1)), (3, (.aload_n 0, 1)), (4, (.getfield 75, 3)), (7, (.aload_n 0, 1)), (8, (.getfield 106, 3)), (11, (.iaload, 1)), (12, (.if_icmp .ge 29, 3)), (15, (.aload_n 0, 1)), (16, (.getfield 78, 3)), (19, (.bipush 6, 2)), (21, (.aload_n 0, 1)), (22, (.getfield 106, 3)), (25, (.imul, 1)), (26, (.iload_n 2, 1)), (27, (.iadd, 1)), (28, (.iaload, 1)), (29, (.iload_n 1, 1)), (30, (.if_icmp .ne 5, 3)), (33, (.iconst 1, 1)), (34, (.ireturn, 1)), (35, (.iinc 2 1, 3)), (38, (.goto (-36), 3)), (41, (.iconst 0, 1)), (42, (.ireturn, 1))]
theorem dsX12_isPlaceAt_0_ok : (dsX12_isPlaceAt_0.all fun q => decide (decode cX12_isPlaceAt q.1 = .ok q.2)) = true := by decide +kernel
theorem dX12_isPlaceAt_0 : decode cX12_isPlaceAt 0 = .ok (.iconst 0, 1) := of_decide_eq_true (List.all_eq_true.mp dsX12_isPlaceAt_0_ok (0, (.iconst 0, 1)) (List.mem_of_getElem? (i := 0) rfl))
theorem dX12_isPlaceAt_1 : decode cX12_isPlaceAt 1 = .ok (.istore_n 2, 1) := of_decide_eq_true (List.all_eq_true.mp dsX12_isPlaceAt_0_ok (1, (.istore_n 2, 1)) (List.mem_of_getElem? (i := 1) rfl))
theorem dX12_isPlaceAt_2 : decode cX12_isPlaceAt 2 = .ok (.iload_n 2, 1) := of_decide_eq_true (List.all_eq_true.mp dsX12_isPlaceAt_0_ok (2, (.iload_n 2, 1)) (List.mem_of_getElem? (i := 2) rfl))
theorem dX12_isPlaceAt_3 : decode cX12_isPlaceAt 3 = .ok (.aload_n 0, 1) := of_decide_eq_true (List.all_eq_true.mp dsX12_isPlaceAt_0_ok (3, (.aload_n 0, 1)) (List.mem_of_getElem? (i := 3) rfl))
theorem dX12_isPlaceAt_4 : decode cX12_isPlaceAt 4 = .ok (.getfield 75, 3) := of_decide_eq_true (List.all_eq_true.mp dsX12_isPlaceAt_0_ok (4, (.getfield 75, 3)) (List.mem_of_getElem? (i := 4) rfl))
theorem dX12_isPlaceAt_7 : decode cX12_isPlaceAt 7 = .ok (.aload_n 0, 1) := of_decide_eq_true (List.all_eq_true.mp dsX12_isPlaceAt_0_ok (7, (.aload_n 0, 1)) (List.mem_of_getElem? (i := 5) rfl))
theorem dX12_isPlaceAt_8 : decode cX12_isPlaceAt 8 = .ok (.getfield 106, 3) := of_decide_eq_true (List.all_eq_true.mp dsX12_isPlaceAt_0_ok (8, (.getfield 106, 3)) (List.mem_of_getElem? (i := 6) rfl))
theorem dX12_isPlaceAt_11 : decode cX12_isPlaceAt 11 = .ok (.iaload, 1) := of_decide_eq_true (List.all_eq_true.mp dsX12_isPlaceAt_0_ok (11, (.iaload, 1)) (List.mem_of_getElem? (i := 7) rfl))
theorem dX12_isPlaceAt_12 : decode cX12_isPlaceAt 12 = .ok (.if_icmp .ge 29, 3) := of_decide_eq_true (List.all_eq_true.mp dsX12_isPlaceAt_0_ok (12, (.if_icmp .ge 29, 3)) (List.mem_of_getElem? (i := 8) rfl))
theorem dX12_isPlaceAt_15 : decode cX12_isPlaceAt 15 = .ok (.aload_n 0, 1) := of_decide_eq_true (List.all_eq_true.mp dsX12_isPlaceAt_0_ok (15, (.aload_n 0, 1)) (List.mem_of_getElem? (i := 9) rfl))
theorem dX12_isPlaceAt_16 : decode cX12_isPlaceAt 16 = .ok (.getfield 78, 3) := of_decide_eq_true (List.all_eq_true.mp dsX12_isPlaceAt_0_ok (16, (.getfield 78, 3)) (List.mem_of_getElem? (i := 10) rfl))
theorem dX12_isPlaceAt_19 : decode cX12_isPlaceAt 19 = .ok (.bipush 6, 2) := of_decide_eq_true (List.all_eq_true.mp dsX12_isPlaceAt_0_ok (19, (.bipush 6, 2)) (List.mem_of_getElem? (i := 11) rfl))
theorem dX12_isPlaceAt_21 : decode cX12_isPlaceAt 21 = .ok (.aload_n 0, 1) := of_decide_eq_true (List.all_eq_true.mp dsX12_isPlaceAt_0_ok (21, (.aload_n 0, 1)) (List.mem_of_getElem? (i := 12) rfl))
theorem dX12_isPlaceAt_22 : decode cX12_isPlaceAt 22 = .ok (.getfield 106, 3) := of_decide_eq_true (List.all_eq_true.mp dsX12_isPlaceAt_0_ok (22, (.getfield 106, 3)) (List.mem_of_getElem? (i := 13) rfl))
theorem dX12_isPlaceAt_25 : decode cX12_isPlaceAt 25 = .ok (.imul, 1) := of_decide_eq_true (List.all_eq_true.mp dsX12_isPlaceAt_0_ok (25, (.imul, 1)) (List.mem_of_getElem? (i := 14) rfl))
theorem dX12_isPlaceAt_26 : decode cX12_isPlaceAt 26 = .ok (.iload_n 2, 1) := of_decide_eq_true (List.all_eq_true.mp dsX12_isPlaceAt_0_ok (26, (.iload_n 2, 1)) (List.mem_of_getElem? (i := 15) rfl))
theorem dX12_isPlaceAt_27 : decode cX12_isPlaceAt 27 = .ok (.iadd, 1) := of_decide_eq_true (List.all_eq_true.mp dsX12_isPlaceAt_0_ok (27, (.iadd, 1)) (List.mem_of_getElem? (i := 16) rfl))
theorem dX12_isPlaceAt_28 : decode cX12_isPlaceAt 28 = .ok (.iaload, 1) := of_decide_eq_true (List.all_eq_true.mp dsX12_isPlaceAt_0_ok (28, (.iaload, 1)) (List.mem_of_getElem? (i := 17) rfl))
theorem dX12_isPlaceAt_29 : decode cX12_isPlaceAt 29 = .ok (.iload_n 1, 1) := of_decide_eq_true (List.all_eq_true.mp dsX12_isPlaceAt_0_ok (29, (.iload_n 1, 1)) (List.mem_of_getElem? (i := 18) rfl))
theorem dX12_isPlaceAt_30 : decode cX12_isPlaceAt 30 = .ok (.if_icmp .ne 5, 3) := of_decide_eq_true (List.all_eq_true.mp dsX12_isPlaceAt_0_ok (30, (.if_icmp .ne 5, 3)) (List.mem_of_getElem? (i := 19) rfl))
theorem dX12_isPlaceAt_33 : decode cX12_isPlaceAt 33 = .ok (.iconst 1, 1) := of_decide_eq_true (List.all_eq_true.mp dsX12_isPlaceAt_0_ok (33, (.iconst 1, 1)) (List.mem_of_getElem? (i := 20) rfl))
theorem dX12_isPlaceAt_34 : decode cX12_isPlaceAt 34 = .ok (.ireturn, 1) := of_decide_eq_true (List.all_eq_true.mp dsX12_isPlaceAt_0_ok (34, (.ireturn, 1)) (List.mem_of_getElem? (i := 21) rfl))
theorem dX12_isPlaceAt_35 : decode cX12_isPlaceAt 35 = .ok (.iinc 2 1, 3) := of_decide_eq_true (List.all_eq_true.mp dsX12_isPlaceAt_0_ok (35, (.iinc 2 1, 3)) (List.mem_of_getElem? (i := 22) rfl))
theorem dX12_isPlaceAt_38 : decode cX12_isPlaceAt 38 = .ok (.goto (-36), 3) := of_decide_eq_true (List.all_eq_true.mp dsX12_isPlaceAt_0_ok (38, (.goto (-36), 3)) (List.mem_of_getElem? (i := 23) rfl))
theorem dX12_isPlaceAt_41 : decode cX12_isPlaceAt 41 = .ok (.iconst 0, 1) := of_decide_eq_true (List.all_eq_true.mp dsX12_isPlaceAt_0_ok (41, (.iconst 0, 1)) (List.mem_of_getElem? (i := 24) rfl))
theorem dX12_isPlaceAt_42 : decode cX12_isPlaceAt 42 = .ok (.ireturn, 1) := of_decide_eq_true (List.all_eq_true.mp dsX12_isPlaceAt_0_ok (42, (.ireturn, 1)) (List.mem_of_getElem? (i := 25) rfl))
def fX12_isPlaceAt_l2 (N : Nat) (mmI : Nat → Int32) (mm_placesF : Nat → Int32) (mm_placeAtF : Nat → Int32)  (k2 : (Int32 × Int32) → Option (Int32)) : (Int32 × Int32) → Option (Int32) :=
  fun (x1_2, x2_2) => (xq_bd (xq_ald 2 mm_placesF (mmI 31)) fun v_1 => (if v_1 ≤ x2_2 then some 0 else (xq_bd (xq_ald 12 mm_placeAtF ((6 * (mmI 31)) + x2_2)) fun v_2 => (if v_2 = x1_2 then some 1 else k2 (x1_2, x2_2 + 1)))))
def fX12_isPlaceAt (N : Nat) (mmI : Nat → Int32) (mm_placesF : Nat → Int32) (mm_placeAtF : Nat → Int32)  (p1 : Int32) : Option (Int32) :=
  xq_loop (fX12_isPlaceAt_l2 N mmI mm_placesF mm_placeAtF) N (p1, 0)
set_option maxHeartbeats 4000000 in
set_option maxRecDepth 100000 in
theorem kX12_isPlaceAt (l : Launch) (dC : Nat → ClassId) (dI : Nat → Nat → Nat) (cI cB cJ cZ cM : ClassId) (z : Nat) (ad : Nat → Nat) (N : Nat) (a_p0 : Nat) (mmI : Nat → Int32) (mmJ : Nat → Int64) (mmR : Nat → Nat) (mm_placesF : Nat → Int32) (mm_placeAtF : Nat → Int32) (p1 : Int32) {r0 : Int32} (hf : fX12_isPlaceAt N mmI mm_placesF mm_placeAtF p1 = some r0) : xq_Ct l yX12_isPlaceAt wsX12_isPlaceAt { frames := 0, cells := 0, slots := 0, locals := 0 } (dC, dI) vwCl (xq_tys cI cB cJ cZ cM) z ad [.ref a_p0, .int p1] [(a_p0, .inr (12, oX12 mmI mmJ mmR)), ((mmR 21), .inl (cI, 2, .inl mm_placesF)), ((mmR 22), .inl (cI, 12, .inl mm_placeAtF))] [(a_p0, .inr (12, oX12 mmI mmJ mmR)), ((mmR 21), .inl (cI, 2, .inl mm_placesF)), ((mmR 22), .inl (cI, 12, .inl mm_placeAtF))] (some (.int r0)) := by
  intro sz
  refine Met.ofW (cc := cX12_isPlaceAt) (maxL := 3) (ret := (some .boolean)) (by decide) rfl ?_
  intro p e s m args below meth c s₁ B hml hv
  obtain ⟨rfl, hsz, hP, hK, hD0, hE, hz⟩ := hv
  have hx := B.exec
  have hb := B.bytes
  have hr := B.returns
  have hts := atoms_spec (ws := wsX12_isPlaceAt) B.pre
  have hown : s.vm.findClass RX12 = some m.cls := findClass_of_methodNamed B.named
  have hlocks := B.notSynchronized
  subst hsz
  have hD := hD0.self (sz := s.heap.size)
  have hN := xq_Env.of hE hz hD0
  generalize hAe : va_A [(a_p0, .inr (12, oX12 mmI mmJ mmR)), ((mmR 21), .inl (cI, 2, .inl mm_placesF)), ((mmR 22), .inl (cI, 12, .inl mm_placeAtF))] s.heap.size = A at hD hN ⊢
  have hA : ∀ q : Nat, s.heap.size ≤ q → A q := fun q h => by rw [← hAe]; exact Or.inr h
  clear hAe hD0
  have hS : va_S A s.heap s.heap [] := va_S.rf
  have hl := lv_entry ([.ref a_p0, .int p1]) (n := 3) (Nat.le_of_ble_eq_true rfl)
  rw [lg_entry_eq]
  generalize (lg_sl ([.ref a_p0, .int p1]) ++ List.replicate (3 - (lg_sl ([.ref a_p0, .int p1])).length) Slot.unset).toArray = ls at hl ⊢
  have hl : lv_has ls 3 [(0, .ref a_p0), (1, .int p1)] := hl
  have hw0 := hts (.fieldLink RX12 75 "DistantVoiceModel" "places" "[I") (by decide +kernel)
  have hinX12 : ∀ w ∈ wsX120, w ∈ wsX12_isPlaceAt := fun w h => List.mem_cons_of_mem _ (List.mem_append_right _ h)
  have hw2 := hts (.fieldLink RX12 106 "DistantVoiceModel" "in" "I") (by decide +kernel)
  have hw3 := hts (.fieldLink RX12 78 "DistantVoiceModel" "placeAt" "[I") (by decide +kernel)
  have l2 : ∀ n2 : Nat, ∀ (x1_2 : Int32) (x2_2 : Int32) (ls : Array Slot) (H : Heap) (locs : List Loc), xq_loop (fX12_isPlaceAt_l2 N mmI mm_placesF mm_placeAtF) n2 (x1_2, x2_2) = some r0 → va_P (dC, dI) vwCl [(a_p0, .inr (12, oX12 mmI mmJ mmR)), ((mmR 21), .inl (cI, 2, .inl mm_placesF)), ((mmR 22), .inl (cI, 12, .inl mm_placeAtF))] H → va_D A [(a_p0, .inr (12, oX12 mmI mmJ mmR)), ((mmR 21), .inl (cI, 2, .inl mm_placesF)), ((mmR 22), .inl (cI, 12, .inl mm_placeAtF))] → va_S A s.heap H locs → lv_has ls 3 [(0, .ref a_p0), (1, .int x1_2), (2, .int x2_2)] → W p l e (headSpec wsX12_isPlaceAt { frames := 0, cells := 0, slots := 0, locals := 0 }).room s m [.ref a_p0, .int p1].toArray below meth c H locs 0 0 (MQ below (xq_Q (dC, dI) vwCl (xq_tys cI cB cJ cZ cM) A [(a_p0, .inr (12, oX12 mmI mmJ mmR)), ((mmR 21), .inl (cI, 2, .inl mm_placesF)), ((mmR 22), .inl (cI, 12, .inl mm_placeAtF))] (some (.int r0))) [.ref a_p0, .int p1].toArray s 0 0 A) (F0 m 2 ls []) := by
    intro n2
    induction n2 with
    | zero => intro x1_2 x2_2 ls H locs hf; cases (show none = some r0 from hf)
    | succ n2 ih2 =>
      intro x1_2 x2_2 ls H locs hf hP hD hS hl
      have hf : fX12_isPlaceAt_l2 N mmI mm_placesF mm_placeAtF (xq_loop (fX12_isPlaceAt_l2 N mmI mm_placesF mm_placeAtF) n2) (x1_2, x2_2) = some r0 := hf
      unfold fX12_isPlaceAt_l2 at hf
      refine lv_iload_n hx hb dX12_isPlaceAt_2 rfl (lv_at hl 2 rfl) ?_
      refine lv_aload_n hx hb dX12_isPlaceAt_3 rfl (lv_at hl 0 rfl) ?_
      refine va_get (D := (dC, dI)) (ci := 12) (v := .ref ((mmR 21))) (C := RX12) (T := TX12) (N := 70) hx hb hts hinX12 hown hK hP 0 rfl rfl 21 (by decide) hw0 (fun _ h9 => h9) rfl dX12_isPlaceAt_4 ?_
      refine lv_aload_n hx hb dX12_isPlaceAt_7 rfl (lv_at hl 0 rfl) ?_
      refine va_get (D := (dC, dI)) (ci := 12) (v := .int (mmI 31)) (C := RX12) (T := TX12) (N := 70) hx hb hts hinX12 hown hK hP 0 rfl rfl 31 (by decide) hw2 (fun _ h9 => h9) rfl dX12_isPlaceAt_8 ?_
      refine xq_iald hx hb hK hP 1 0 rfl rfl hf dX12_isPlaceAt_11 (fun v_1 hf => ?_)
      refine lv_icmp_ge (tgt := 41) hx hb dX12_isPlaceAt_12 (by decide) (fun c_ => ?_) (fun c_ => ?_)
      · have hf := xq_pos hf c_
        refine lv_iconst (v := 0) hx hb dX12_isPlaceAt_41 (by decide) ?_
        have e9_0 : 0 = r0 := Option.some.inj hf
        subst e9_0
        exact xq_zret hx hb hr (by decide +kernel) hlocks hK hP hD hS dX12_isPlaceAt_42
      · have hf := xq_neg hf c_
        refine lv_aload_n hx hb dX12_isPlaceAt_15 rfl (lv_at hl 0 rfl) ?_
        refine va_get (D := (dC, dI)) (ci := 12) (v := .ref ((mmR 22))) (C := RX12) (T := TX12) (N := 70) hx hb hts hinX12 hown hK hP 0 rfl rfl 22 (by decide) hw3 (fun _ h9 => h9) rfl dX12_isPlaceAt_16 ?_
        refine lv_bipush (v := 6) hx hb dX12_isPlaceAt_19 (by decide) ?_
        refine lv_aload_n hx hb dX12_isPlaceAt_21 rfl (lv_at hl 0 rfl) ?_
        refine va_get (D := (dC, dI)) (ci := 12) (v := .int (mmI 31)) (C := RX12) (T := TX12) (N := 70) hx hb hts hinX12 hown hK hP 0 rfl rfl 31 (by decide) hw2 (fun _ h9 => h9) rfl dX12_isPlaceAt_22 ?_
        refine lv_imul hx hb dX12_isPlaceAt_25 ?_
        refine lv_iload_n hx hb dX12_isPlaceAt_26 rfl (lv_at hl 2 rfl) ?_
        refine lv_iadd hx hb dX12_isPlaceAt_27 ?_
        refine xq_iald hx hb hK hP 2 0 rfl rfl hf dX12_isPlaceAt_28 (fun v_2 hf => ?_)
        refine lv_iload_n hx hb dX12_isPlaceAt_29 rfl (lv_at hl 1 rfl) ?_
        refine lv_icmp_ne (tgt := 35) hx hb dX12_isPlaceAt_30 (by decide) (fun c_ => ?_) (fun c_ => ?_)
        · have hf := xq_neg hf c_
          refine lv_iinc (v := x2_2 + 1) (lv' := [(2, .int (x2_2 + 1)), (0, .ref a_p0), (1, .int x1_2)]) hx hb dX12_isPlaceAt_35 hl (k := 2) rfl (congrArg (fun q9 => x2_2 + q9) (by decide : Int32.ofInt 1 = 1)) (by decide) rfl (fun ls hl => ?_)
          refine lv_goto (tgt := 2) hx hb dX12_isPlaceAt_38 (by decide) ?_
          exact ih2 x1_2 (x2_2 + 1) _ _ _ hf hP hD hS (lv_sub hl [1, 2, 0] rfl)
        · have hf := xq_pos hf c_
          refine lv_iconst (v := 1) hx hb dX12_isPlaceAt_33 (by decide) ?_
          have e9_0 : 1 = r0 := Option.some.inj hf
          subst e9_0
          exact xq_zret hx hb hr (by decide +kernel) hlocks hK hP hD hS dX12_isPlaceAt_34
  unfold fX12_isPlaceAt at hf
  refine lv_iconst (v := 0) hx hb dX12_isPlaceAt_0 (by decide) ?_
  refine lv_istore_n (lv' := [(2, .int 0), (0, .ref a_p0), (1, .int p1)]) hx hb dX12_isPlaceAt_1 rfl hl (by decide) rfl (fun ls hl => ?_)
  exact l2 N p1 0 _ _ _ hf hP hD hS (lv_sub hl [1, 2, 0] rfl)
set_option maxRecDepth 20000 in
theorem ggX12_placing_X12_isCounted : GoodIn wsX12_placing wsX12_isCounted := goodIn_r _ [15, 7, 5, 16, 17, 18, 14, 19, 20, 21, 22, 23, 24, 25, 26, 27, 28, 29, 30, 31, 32, 33, 34, 35, 36, 37, 97, 98, 99, 100, 101, 102, 103, 104, 105, 106, 107, 108, 109, 110, 111, 112, 113, 114, 115, 116, 117, 118, 119, 120, 121, 122, 123, 124, 125, 126, 127, 128, 129, 130, 131, 132, 133, 134, 135, 136, 137, 138, 139, 140, 141, 142, 143, 144, 145, 146, 147, 148, 149, 150, 151, 152, 153, 154, 155, 156, 157, 158, 159, 160, 161, 162, 163, 164, 165, 166] rfl (by decide +kernel)
set_option maxRecDepth 20000 in
theorem gX12_placing_X12_isCounted : GoodIn wsX12_placing (wsV RX12 342 RX12 yX12_isCounted wsX12_isCounted) := goodIn_app (goodIn_of _ (by decide +kernel)) ggX12_placing_X12_isCounted
set_option maxRecDepth 20000 in
theorem ggX12_placing_X12_fresh : GoodIn wsX12_placing wsX12_fresh := goodIn_r _ [41, 7, 28, 31, 5, 42, 43, 44, 14, 45, 29, 16, 17, 18, 19, 20, 46, 47, 48, 49, 50, 51, 52, 53, 54, 55, 56, 57, 4, 9, 58, 59, 60, 61, 62, 63, 64, 65, 66, 67, 68, 69, 70, 71, 72, 73, 74, 75, 76, 2, 77, 1, 3, 21, 22, 23, 24, 25, 26, 27, 30, 32, 33, 34, 35, 36, 37, 97, 98, 99, 100, 101, 102, 103, 104, 105, 106, 107, 108, 109, 110, 111, 112, 113, 114, 115, 116, 117, 118, 119, 120, 121, 122, 123, 124, 125, 126, 127, 128, 129, 130, 131, 132, 133, 134, 135, 136, 137, 138, 139, 140, 141, 142, 143, 144, 145, 146, 147, 148, 149, 150, 151, 152, 153, 154, 155, 156, 157, 158, 159, 160, 161, 162, 163, 164, 165, 166] rfl (by decide +kernel)
set_option maxRecDepth 20000 in
theorem gX12_placing_X12_fresh : GoodIn wsX12_placing (wsV RX12 354 RX12 yX12_fresh wsX12_fresh) := goodIn_app (goodIn_of _ (by decide +kernel)) ggX12_placing_X12_fresh
set_option maxRecDepth 20000 in
theorem ggX12_placing_X12_must_ : GoodIn wsX12_placing wsX12_must_ := goodIn_r _ [81, 7, 5, 42, 43, 44, 14, 45, 29, 16, 17, 18, 19, 20, 82, 83, 84, 85, 28, 31, 21, 22, 23, 24, 25, 26, 27, 30, 32, 33, 34, 35, 36, 37, 97, 98, 99, 100, 101, 102, 103, 104, 105, 106, 107, 108, 109, 110, 111, 112, 113, 114, 115, 116, 117, 118, 119, 120, 121, 122, 123, 124, 125, 126, 127, 128, 129, 130, 131, 132, 133, 134, 135, 136, 137, 138, 139, 140, 141, 142, 143, 144, 145, 146, 147, 148, 149, 150, 151, 152, 153, 154, 155, 156, 157, 158, 159, 160, 161, 162, 163, 164, 165, 166] rfl (by decide +kernel)
set_option maxRecDepth 20000 in
theorem gX12_placing_X12_must_ : GoodIn wsX12_placing (wsV RX12 350 RX12 yX12_must_ wsX12_must_) := goodIn_app (goodIn_of _ (by decide +kernel)) ggX12_placing_X12_must_
set_option maxRecDepth 20000 in
theorem ggX12_placing_X12_lex : GoodIn wsX12_placing wsX12_lex := goodIn_r _ [45, 29, 16, 17, 18, 14, 19, 7, 20, 97, 98, 99, 100, 101, 102, 103, 104, 105, 106, 107, 108, 109, 110, 111, 112, 113, 114, 115, 116, 117, 118, 119, 120, 121, 122, 123, 124, 125, 126, 127, 128, 129, 130, 131, 132, 133, 134, 135, 136, 137, 138, 139, 140, 141, 142, 143, 144, 145, 146, 147, 148, 149, 150, 151, 152, 153, 154, 155, 156, 157, 158, 159, 160, 161, 162, 163, 164, 165, 166] rfl (by decide +kernel)
set_option maxRecDepth 20000 in
theorem gX12_placing_X12_lex : GoodIn wsX12_placing (wsV RX12 244 RX12 yX12_lex wsX12_lex) := goodIn_app (goodIn_of _ (by decide +kernel)) ggX12_placing_X12_lex
set_option maxRecDepth 20000 in
theorem ggX12_placing_X12_number : GoodIn wsX12_placing wsX12_number := goodIn_r _ [89, 7, 28, 5, 30, 42, 43, 44, 14, 45, 29, 16, 17, 18, 19, 20, 90, 91, 92, 21, 22, 23, 24, 25, 26, 27, 31, 32, 33, 34, 35, 36, 37, 97, 98, 99, 100, 101, 102, 103, 104, 105, 106, 107, 108, 109, 110, 111, 112, 113, 114, 115, 116, 117, 118, 119, 120, 121, 122, 123, 124, 125, 126, 127, 128, 129, 130, 131, 132, 133, 134, 135, 136, 137, 138, 139, 140, 141, 142, 143, 144, 145, 146, 147, 148, 149, 150, 151, 152, 153, 154, 155, 156, 157, 158, 159, 160, 161, 162, 163, 164, 165, 166] rfl (by decide +kernel)
set_option maxRecDepth 20000 in
theorem gX12_placing_X12_number : GoodIn wsX12_placing (wsV RX12 346 RX12 yX12_number wsX12_number) := goodIn_app (goodIn_of _ (by decide +kernel)) ggX12_placing_X12_number
set_option maxRecDepth 20000 in
theorem ggX12_placing_X12_isPlaceAt : GoodIn wsX12_placing wsX12_isPlaceAt := goodIn_r _ [96, 1, 2, 8, 97, 98, 99, 100, 101, 102, 103, 104, 105, 106, 107, 108, 109, 110, 111, 112, 113, 114, 115, 116, 117, 118, 119, 120, 121, 122, 123, 124, 125, 126, 127, 128, 129, 130, 131, 132, 133, 134, 135, 136, 137, 138, 139, 140, 141, 142, 143, 144, 145, 146, 147, 148, 149, 150, 151, 152, 153, 154, 155, 156, 157, 158, 159, 160, 161, 162, 163, 164, 165, 166] rfl (by decide +kernel)
set_option maxRecDepth 20000 in
theorem gX12_placing_X12_isPlaceAt : GoodIn wsX12_placing (wsV RX12 358 RX12 yX12_isPlaceAt wsX12_isPlaceAt) := goodIn_app (goodIn_of _ (by decide +kernel)) ggX12_placing_X12_isPlaceAt
set_option maxRecDepth 20000 in
theorem ggX12_placing_X12_blame : GoodIn wsX12_placing wsX12_blame := goodIn_r _ [19, 7, 20, 97, 98, 99, 100, 101, 102, 103, 104, 105, 106, 107, 108, 109, 110, 111, 112, 113, 114, 115, 116, 117, 118, 119, 120, 121, 122, 123, 124, 125, 126, 127, 128, 129, 130, 131, 132, 133, 134, 135, 136, 137, 138, 139, 140, 141, 142, 143, 144, 145, 146, 147, 148, 149, 150, 151, 152, 153, 154, 155, 156, 157, 158, 159, 160, 161, 162, 163, 164, 165, 166] rfl (by decide +kernel)
set_option maxRecDepth 20000 in
theorem gX12_placing_X12_blame : GoodIn wsX12_placing (wsV RX12 233 RX12 yX12_blame wsX12_blame) := goodIn_app (goodIn_of _ (by decide +kernel)) ggX12_placing_X12_blame
def dsX12_placing_0 : List (Nat × Instr × Nat) := [(0, (.aload_n 0, 1)), (1, (.aload_n 0, 1)), (2, (.getfield 75, 3)), (5, (.aload_n 0, 1)), (6, (.getfield 106, 3)), (9, (.iaload, 1)), (10, (.bipush 6, 2)), (12, (.if_icmp .ne 7, 3)), (15, (.iconst 1, 1)), (16, (.goto 4, 3)), (19, (.iconst 0, 1)), (20, (.invokevirtual 342, 3)), (23, (.ifCond .ne 4, 3)), (26, (.return_, 1)), (27, (.bipush 6, 2)), (29, (.aload_n 0, 1)), (30, (.getfield 106, 3)), (33, (.imul, 1)), (34, (.aload_n 0, 1)), (35, (.getfield 75, 3)), (38, (.aload_n 0, 1)), (39, (.getfield 106, 3)), (42, (.iaload, 1)), (43, (.iadd, 1)), (44, (.istore_n 1, 1)), (45, (.aload_n 0, 1)), (46, (.getfield 100, 3)), (49, (.iload_n 1, 1)), (50, (.aload_n 0, 1)), (51, (.invokevirtual 354, 3)), (54, (.lastore, 1)), (55, (.aload_n 0, 1)), (56, (.ldc2_w 269, 3)), (59, (.invokevirtual 350, 3)), (62, (.aload_n 0, 1)), (63, (.invokevirtual 244, 3)), (66, (.aload_n 0, 1)), (67, (.getfield 23, 3)), (70, (.istore_n 2, 1)), (71, (.aload_n 0, 1)), (72, (.iconst 1, 1)), (73, (.aload_n 0, 1)), (74, (.getfield 54, 3)), (77, (.aload_n 0, 1)), (78, (.getfield 106, 3)), (81, (.iaload, 1)), (82, (.iconst 1, 1)), (83, (.isub, 1)), (84, (.invokevirtual 346, 3)), (87, (.istore_n 3, 1)), (88, (.aload_n 0, 1)), (89, (.getfield 36, 3)), (92, (.ifCond .ne 17, 3)), (95, (.aload_n 0, 1)), (96, (.iload_n 3, 1)), (97, (.invokevirtual 358, 3)), (100, (.ifCond .eq 9, 3)), (103, (.aload_n 0, 1)), (104, (.iconst 4, 1)), (105, (.iload_n 2, 1))]
theorem dsX12_placing_0_ok : (dsX12_placing_0.all fun q => decide (decode cX12_placing q.1 = .ok q.2)) = true := by decide +kernel
theorem dX12_placing_0 : decode cX12_placing 0 = .ok (.aload_n 0, 1) := of_decide_eq_true (List.all_eq_true.mp dsX12_placing_0_ok (0, (.aload_n 0, 1)) (List.mem_of_getElem? (i := 0) rfl))
theorem dX12_placing_1 : decode cX12_placing 1 = .ok (.aload_n 0, 1) := of_decide_eq_true (List.all_eq_true.mp dsX12_placing_0_ok (1, (.aload_n 0, 1)) (List.mem_of_getElem? (i := 1) rfl))
theorem dX12_placing_2 : decode cX12_placing 2 = .ok (.getfield 75, 3) := of_decide_eq_true (List.all_eq_true.mp dsX12_placing_0_ok (2, (.getfield 75, 3)) (List.mem_of_getElem? (i := 2) rfl))
theorem dX12_placing_5 : decode cX12_placing 5 = .ok (.aload_n 0, 1) := of_decide_eq_true (List.all_eq_true.mp dsX12_placing_0_ok (5, (.aload_n 0, 1)) (List.mem_of_getElem? (i := 3) rfl))
theorem dX12_placing_6 : decode cX12_placing 6 = .ok (.getfield 106, 3) := of_decide_eq_true (List.all_eq_true.mp dsX12_placing_0_ok (6, (.getfield 106, 3)) (List.mem_of_getElem? (i := 4) rfl))
theorem dX12_placing_9 : decode cX12_placing 9 = .ok (.iaload, 1) := of_decide_eq_true (List.all_eq_true.mp dsX12_placing_0_ok (9, (.iaload, 1)) (List.mem_of_getElem? (i := 5) rfl))
theorem dX12_placing_10 : decode cX12_placing 10 = .ok (.bipush 6, 2) := of_decide_eq_true (List.all_eq_true.mp dsX12_placing_0_ok (10, (.bipush 6, 2)) (List.mem_of_getElem? (i := 6) rfl))
theorem dX12_placing_12 : decode cX12_placing 12 = .ok (.if_icmp .ne 7, 3) := of_decide_eq_true (List.all_eq_true.mp dsX12_placing_0_ok (12, (.if_icmp .ne 7, 3)) (List.mem_of_getElem? (i := 7) rfl))
theorem dX12_placing_15 : decode cX12_placing 15 = .ok (.iconst 1, 1) := of_decide_eq_true (List.all_eq_true.mp dsX12_placing_0_ok (15, (.iconst 1, 1)) (List.mem_of_getElem? (i := 8) rfl))
theorem dX12_placing_16 : decode cX12_placing 16 = .ok (.goto 4, 3) := of_decide_eq_true (List.all_eq_true.mp dsX12_placing_0_ok (16, (.goto 4, 3)) (List.mem_of_getElem? (i := 9) rfl))
theorem dX12_placing_19 : decode cX12_placing 19 = .ok (.iconst 0, 1) := of_decide_eq_true (List.all_eq_true.mp dsX12_placing_0_ok (19, (.iconst 0, 1)) (List.mem_of_getElem? (i := 10) rfl))
theorem dX12_placing_20 : decode cX12_placing 20 = .ok (.invokevirtual 342, 3) := of_decide_eq_true (List.all_eq_true.mp dsX12_placing_0_ok (20, (.invokevirtual 342, 3)) (List.mem_of_getElem? (i := 11) rfl))
theorem dX12_placing_23 : decode cX12_placing 23 = .ok (.ifCond .ne 4, 3) := of_decide_eq_true (List.all_eq_true.mp dsX12_placing_0_ok (23, (.ifCond .ne 4, 3)) (List.mem_of_getElem? (i := 12) rfl))
theorem dX12_placing_26 : decode cX12_placing 26 = .ok (.return_, 1) := of_decide_eq_true (List.all_eq_true.mp dsX12_placing_0_ok (26, (.return_, 1)) (List.mem_of_getElem? (i := 13) rfl))
theorem dX12_placing_27 : decode cX12_placing 27 = .ok (.bipush 6, 2) := of_decide_eq_true (List.all_eq_true.mp dsX12_placing_0_ok (27, (.bipush 6, 2)) (List.mem_of_getElem? (i := 14) rfl))
theorem dX12_placing_29 : decode cX12_placing 29 = .ok (.aload_n 0, 1) := of_decide_eq_true (List.all_eq_true.mp dsX12_placing_0_ok (29, (.aload_n 0, 1)) (List.mem_of_getElem? (i := 15) rfl))
theorem dX12_placing_30 : decode cX12_placing 30 = .ok (.getfield 106, 3) := of_decide_eq_true (List.all_eq_true.mp dsX12_placing_0_ok (30, (.getfield 106, 3)) (List.mem_of_getElem? (i := 16) rfl))
theorem dX12_placing_33 : decode cX12_placing 33 = .ok (.imul, 1) := of_decide_eq_true (List.all_eq_true.mp dsX12_placing_0_ok (33, (.imul, 1)) (List.mem_of_getElem? (i := 17) rfl))
theorem dX12_placing_34 : decode cX12_placing 34 = .ok (.aload_n 0, 1) := of_decide_eq_true (List.all_eq_true.mp dsX12_placing_0_ok (34, (.aload_n 0, 1)) (List.mem_of_getElem? (i := 18) rfl))
theorem dX12_placing_35 : decode cX12_placing 35 = .ok (.getfield 75, 3) := of_decide_eq_true (List.all_eq_true.mp dsX12_placing_0_ok (35, (.getfield 75, 3)) (List.mem_of_getElem? (i := 19) rfl))
theorem dX12_placing_38 : decode cX12_placing 38 = .ok (.aload_n 0, 1) := of_decide_eq_true (List.all_eq_true.mp dsX12_placing_0_ok (38, (.aload_n 0, 1)) (List.mem_of_getElem? (i := 20) rfl))
theorem dX12_placing_39 : decode cX12_placing 39 = .ok (.getfield 106, 3) := of_decide_eq_true (List.all_eq_true.mp dsX12_placing_0_ok (39, (.getfield 106, 3)) (List.mem_of_getElem? (i := 21) rfl))
theorem dX12_placing_42 : decode cX12_placing 42 = .ok (.iaload, 1) := of_decide_eq_true (List.all_eq_true.mp dsX12_placing_0_ok (42, (.iaload, 1)) (List.mem_of_getElem? (i := 22) rfl))
theorem dX12_placing_43 : decode cX12_placing 43 = .ok (.iadd, 1) := of_decide_eq_true (List.all_eq_true.mp dsX12_placing_0_ok (43, (.iadd, 1)) (List.mem_of_getElem? (i := 23) rfl))
theorem dX12_placing_44 : decode cX12_placing 44 = .ok (.istore_n 1, 1) := of_decide_eq_true (List.all_eq_true.mp dsX12_placing_0_ok (44, (.istore_n 1, 1)) (List.mem_of_getElem? (i := 24) rfl))
theorem dX12_placing_45 : decode cX12_placing 45 = .ok (.aload_n 0, 1) := of_decide_eq_true (List.all_eq_true.mp dsX12_placing_0_ok (45, (.aload_n 0, 1)) (List.mem_of_getElem? (i := 25) rfl))
theorem dX12_placing_46 : decode cX12_placing 46 = .ok (.getfield 100, 3) := of_decide_eq_true (List.all_eq_true.mp dsX12_placing_0_ok (46, (.getfield 100, 3)) (List.mem_of_getElem? (i := 26) rfl))
theorem dX12_placing_49 : decode cX12_placing 49 = .ok (.iload_n 1, 1) := of_decide_eq_true (List.all_eq_true.mp dsX12_placing_0_ok (49, (.iload_n 1, 1)) (List.mem_of_getElem? (i := 27) rfl))
theorem dX12_placing_50 : decode cX12_placing 50 = .ok (.aload_n 0, 1) := of_decide_eq_true (List.all_eq_true.mp dsX12_placing_0_ok (50, (.aload_n 0, 1)) (List.mem_of_getElem? (i := 28) rfl))
theorem dX12_placing_51 : decode cX12_placing 51 = .ok (.invokevirtual 354, 3) := of_decide_eq_true (List.all_eq_true.mp dsX12_placing_0_ok (51, (.invokevirtual 354, 3)) (List.mem_of_getElem? (i := 29) rfl))
theorem dX12_placing_54 : decode cX12_placing 54 = .ok (.lastore, 1) := of_decide_eq_true (List.all_eq_true.mp dsX12_placing_0_ok (54, (.lastore, 1)) (List.mem_of_getElem? (i := 30) rfl))
theorem dX12_placing_55 : decode cX12_placing 55 = .ok (.aload_n 0, 1) := of_decide_eq_true (List.all_eq_true.mp dsX12_placing_0_ok (55, (.aload_n 0, 1)) (List.mem_of_getElem? (i := 31) rfl))
theorem dX12_placing_56 : decode cX12_placing 56 = .ok (.ldc2_w 269, 3) := of_decide_eq_true (List.all_eq_true.mp dsX12_placing_0_ok (56, (.ldc2_w 269, 3)) (List.mem_of_getElem? (i := 32) rfl))
theorem dX12_placing_59 : decode cX12_placing 59 = .ok (.invokevirtual 350, 3) := of_decide_eq_true (List.all_eq_true.mp dsX12_placing_0_ok (59, (.invokevirtual 350, 3)) (List.mem_of_getElem? (i := 33) rfl))
theorem dX12_placing_62 : decode cX12_placing 62 = .ok (.aload_n 0, 1) := of_decide_eq_true (List.all_eq_true.mp dsX12_placing_0_ok (62, (.aload_n 0, 1)) (List.mem_of_getElem? (i := 34) rfl))
theorem dX12_placing_63 : decode cX12_placing 63 = .ok (.invokevirtual 244, 3) := of_decide_eq_true (List.all_eq_true.mp dsX12_placing_0_ok (63, (.invokevirtual 244, 3)) (List.mem_of_getElem? (i := 35) rfl))
theorem dX12_placing_66 : decode cX12_placing 66 = .ok (.aload_n 0, 1) := of_decide_eq_true (List.all_eq_true.mp dsX12_placing_0_ok (66, (.aload_n 0, 1)) (List.mem_of_getElem? (i := 36) rfl))
theorem dX12_placing_67 : decode cX12_placing 67 = .ok (.getfield 23, 3) := of_decide_eq_true (List.all_eq_true.mp dsX12_placing_0_ok (67, (.getfield 23, 3)) (List.mem_of_getElem? (i := 37) rfl))
theorem dX12_placing_70 : decode cX12_placing 70 = .ok (.istore_n 2, 1) := of_decide_eq_true (List.all_eq_true.mp dsX12_placing_0_ok (70, (.istore_n 2, 1)) (List.mem_of_getElem? (i := 38) rfl))
theorem dX12_placing_71 : decode cX12_placing 71 = .ok (.aload_n 0, 1) := of_decide_eq_true (List.all_eq_true.mp dsX12_placing_0_ok (71, (.aload_n 0, 1)) (List.mem_of_getElem? (i := 39) rfl))
theorem dX12_placing_72 : decode cX12_placing 72 = .ok (.iconst 1, 1) := of_decide_eq_true (List.all_eq_true.mp dsX12_placing_0_ok (72, (.iconst 1, 1)) (List.mem_of_getElem? (i := 40) rfl))
theorem dX12_placing_73 : decode cX12_placing 73 = .ok (.aload_n 0, 1) := of_decide_eq_true (List.all_eq_true.mp dsX12_placing_0_ok (73, (.aload_n 0, 1)) (List.mem_of_getElem? (i := 41) rfl))
theorem dX12_placing_74 : decode cX12_placing 74 = .ok (.getfield 54, 3) := of_decide_eq_true (List.all_eq_true.mp dsX12_placing_0_ok (74, (.getfield 54, 3)) (List.mem_of_getElem? (i := 42) rfl))
theorem dX12_placing_77 : decode cX12_placing 77 = .ok (.aload_n 0, 1) := of_decide_eq_true (List.all_eq_true.mp dsX12_placing_0_ok (77, (.aload_n 0, 1)) (List.mem_of_getElem? (i := 43) rfl))
theorem dX12_placing_78 : decode cX12_placing 78 = .ok (.getfield 106, 3) := of_decide_eq_true (List.all_eq_true.mp dsX12_placing_0_ok (78, (.getfield 106, 3)) (List.mem_of_getElem? (i := 44) rfl))
theorem dX12_placing_81 : decode cX12_placing 81 = .ok (.iaload, 1) := of_decide_eq_true (List.all_eq_true.mp dsX12_placing_0_ok (81, (.iaload, 1)) (List.mem_of_getElem? (i := 45) rfl))
theorem dX12_placing_82 : decode cX12_placing 82 = .ok (.iconst 1, 1) := of_decide_eq_true (List.all_eq_true.mp dsX12_placing_0_ok (82, (.iconst 1, 1)) (List.mem_of_getElem? (i := 46) rfl))
theorem dX12_placing_83 : decode cX12_placing 83 = .ok (.isub, 1) := of_decide_eq_true (List.all_eq_true.mp dsX12_placing_0_ok (83, (.isub, 1)) (List.mem_of_getElem? (i := 47) rfl))
theorem dX12_placing_84 : decode cX12_placing 84 = .ok (.invokevirtual 346, 3) := of_decide_eq_true (List.all_eq_true.mp dsX12_placing_0_ok (84, (.invokevirtual 346, 3)) (List.mem_of_getElem? (i := 48) rfl))
theorem dX12_placing_87 : decode cX12_placing 87 = .ok (.istore_n 3, 1) := of_decide_eq_true (List.all_eq_true.mp dsX12_placing_0_ok (87, (.istore_n 3, 1)) (List.mem_of_getElem? (i := 49) rfl))
theorem dX12_placing_88 : decode cX12_placing 88 = .ok (.aload_n 0, 1) := of_decide_eq_true (List.all_eq_true.mp dsX12_placing_0_ok (88, (.aload_n 0, 1)) (List.mem_of_getElem? (i := 50) rfl))
theorem dX12_placing_89 : decode cX12_placing 89 = .ok (.getfield 36, 3) := of_decide_eq_true (List.all_eq_true.mp dsX12_placing_0_ok (89, (.getfield 36, 3)) (List.mem_of_getElem? (i := 51) rfl))
theorem dX12_placing_92 : decode cX12_placing 92 = .ok (.ifCond .ne 17, 3) := of_decide_eq_true (List.all_eq_true.mp dsX12_placing_0_ok (92, (.ifCond .ne 17, 3)) (List.mem_of_getElem? (i := 52) rfl))
theorem dX12_placing_95 : decode cX12_placing 95 = .ok (.aload_n 0, 1) := of_decide_eq_true (List.all_eq_true.mp dsX12_placing_0_ok (95, (.aload_n 0, 1)) (List.mem_of_getElem? (i := 53) rfl))
theorem dX12_placing_96 : decode cX12_placing 96 = .ok (.iload_n 3, 1) := of_decide_eq_true (List.all_eq_true.mp dsX12_placing_0_ok (96, (.iload_n 3, 1)) (List.mem_of_getElem? (i := 54) rfl))
theorem dX12_placing_97 : decode cX12_placing 97 = .ok (.invokevirtual 358, 3) := of_decide_eq_true (List.all_eq_true.mp dsX12_placing_0_ok (97, (.invokevirtual 358, 3)) (List.mem_of_getElem? (i := 55) rfl))
theorem dX12_placing_100 : decode cX12_placing 100 = .ok (.ifCond .eq 9, 3) := of_decide_eq_true (List.all_eq_true.mp dsX12_placing_0_ok (100, (.ifCond .eq 9, 3)) (List.mem_of_getElem? (i := 56) rfl))
theorem dX12_placing_103 : decode cX12_placing 103 = .ok (.aload_n 0, 1) := of_decide_eq_true (List.all_eq_true.mp dsX12_placing_0_ok (103, (.aload_n 0, 1)) (List.mem_of_getElem? (i := 57) rfl))
theorem dX12_placing_104 : decode cX12_placing 104 = .ok (.iconst 4, 1) := of_decide_eq_true (List.all_eq_true.mp dsX12_placing_0_ok (104, (.iconst 4, 1)) (List.mem_of_getElem? (i := 58) rfl))
theorem dX12_placing_105 : decode cX12_placing 105 = .ok (.iload_n 2, 1) := of_decide_eq_true (List.all_eq_true.mp dsX12_placing_0_ok (105, (.iload_n 2, 1)) (List.mem_of_getElem? (i := 59) rfl))
def dsX12_placing_1 : List (Nat × Instr × Nat) := [(106, (.invokevirtual 233, 3)), (109, (.aload_n 0, 1)), (110, (.getfield 78, 3)), (113, (.iload_n 1, 1)), (114, (.iload_n 3, 1)), (115, (.iastore, 1)), (116, (.aload_n 0, 1)), (117, (.ldc2_w 271, 3)), (120, (.invokevirtual 350, 3)), (123, (.aload_n 0, 1)), (124, (.getfield 81, 3)), (127, (.iload_n 1, 1)), (128, (.aload_n 0, 1)), (129, (.iconst 0, 1)), (130, (.bipush 9, 2)), (132, (.invokevirtual 346, 3)), (135, (.iastore, 1)), (136, (.aload_n 0, 1)), (137, (.getfield 36, 3)), (140, (.ifCond .ne 16, 3)), (143, (.aload_n 0, 1)), (144, (.getfield 75, 3)), (147, (.aload_n 0, 1)), (148, (.getfield 106, 3)), (151, (.dup2, 1)), (152, (.iaload, 1)), (153, (.iconst 1, 1)), (154, (.iadd, 1)), (155, (.iastore, 1)), (156, (.return_, 1))]
theorem dsX12_placing_1_ok : (dsX12_placing_1.all fun q => decide (decode cX12_placing q.1 = .ok q.2)) = true := by decide +kernel
theorem dX12_placing_106 : decode cX12_placing 106 = .ok (.invokevirtual 233, 3) := of_decide_eq_true (List.all_eq_true.mp dsX12_placing_1_ok (106, (.invokevirtual 233, 3)) (List.mem_of_getElem? (i := 0) rfl))
theorem dX12_placing_109 : decode cX12_placing 109 = .ok (.aload_n 0, 1) := of_decide_eq_true (List.all_eq_true.mp dsX12_placing_1_ok (109, (.aload_n 0, 1)) (List.mem_of_getElem? (i := 1) rfl))
theorem dX12_placing_110 : decode cX12_placing 110 = .ok (.getfield 78, 3) := of_decide_eq_true (List.all_eq_true.mp dsX12_placing_1_ok (110, (.getfield 78, 3)) (List.mem_of_getElem? (i := 2) rfl))
theorem dX12_placing_113 : decode cX12_placing 113 = .ok (.iload_n 1, 1) := of_decide_eq_true (List.all_eq_true.mp dsX12_placing_1_ok (113, (.iload_n 1, 1)) (List.mem_of_getElem? (i := 3) rfl))
theorem dX12_placing_114 : decode cX12_placing 114 = .ok (.iload_n 3, 1) := of_decide_eq_true (List.all_eq_true.mp dsX12_placing_1_ok (114, (.iload_n 3, 1)) (List.mem_of_getElem? (i := 4) rfl))
theorem dX12_placing_115 : decode cX12_placing 115 = .ok (.iastore, 1) := of_decide_eq_true (List.all_eq_true.mp dsX12_placing_1_ok (115, (.iastore, 1)) (List.mem_of_getElem? (i := 5) rfl))
theorem dX12_placing_116 : decode cX12_placing 116 = .ok (.aload_n 0, 1) := of_decide_eq_true (List.all_eq_true.mp dsX12_placing_1_ok (116, (.aload_n 0, 1)) (List.mem_of_getElem? (i := 6) rfl))
theorem dX12_placing_117 : decode cX12_placing 117 = .ok (.ldc2_w 271, 3) := of_decide_eq_true (List.all_eq_true.mp dsX12_placing_1_ok (117, (.ldc2_w 271, 3)) (List.mem_of_getElem? (i := 7) rfl))
theorem dX12_placing_120 : decode cX12_placing 120 = .ok (.invokevirtual 350, 3) := of_decide_eq_true (List.all_eq_true.mp dsX12_placing_1_ok (120, (.invokevirtual 350, 3)) (List.mem_of_getElem? (i := 8) rfl))
theorem dX12_placing_123 : decode cX12_placing 123 = .ok (.aload_n 0, 1) := of_decide_eq_true (List.all_eq_true.mp dsX12_placing_1_ok (123, (.aload_n 0, 1)) (List.mem_of_getElem? (i := 9) rfl))
theorem dX12_placing_124 : decode cX12_placing 124 = .ok (.getfield 81, 3) := of_decide_eq_true (List.all_eq_true.mp dsX12_placing_1_ok (124, (.getfield 81, 3)) (List.mem_of_getElem? (i := 10) rfl))
theorem dX12_placing_127 : decode cX12_placing 127 = .ok (.iload_n 1, 1) := of_decide_eq_true (List.all_eq_true.mp dsX12_placing_1_ok (127, (.iload_n 1, 1)) (List.mem_of_getElem? (i := 11) rfl))
theorem dX12_placing_128 : decode cX12_placing 128 = .ok (.aload_n 0, 1) := of_decide_eq_true (List.all_eq_true.mp dsX12_placing_1_ok (128, (.aload_n 0, 1)) (List.mem_of_getElem? (i := 12) rfl))
theorem dX12_placing_129 : decode cX12_placing 129 = .ok (.iconst 0, 1) := of_decide_eq_true (List.all_eq_true.mp dsX12_placing_1_ok (129, (.iconst 0, 1)) (List.mem_of_getElem? (i := 13) rfl))
theorem dX12_placing_130 : decode cX12_placing 130 = .ok (.bipush 9, 2) := of_decide_eq_true (List.all_eq_true.mp dsX12_placing_1_ok (130, (.bipush 9, 2)) (List.mem_of_getElem? (i := 14) rfl))
theorem dX12_placing_132 : decode cX12_placing 132 = .ok (.invokevirtual 346, 3) := of_decide_eq_true (List.all_eq_true.mp dsX12_placing_1_ok (132, (.invokevirtual 346, 3)) (List.mem_of_getElem? (i := 15) rfl))
theorem dX12_placing_135 : decode cX12_placing 135 = .ok (.iastore, 1) := of_decide_eq_true (List.all_eq_true.mp dsX12_placing_1_ok (135, (.iastore, 1)) (List.mem_of_getElem? (i := 16) rfl))
theorem dX12_placing_136 : decode cX12_placing 136 = .ok (.aload_n 0, 1) := of_decide_eq_true (List.all_eq_true.mp dsX12_placing_1_ok (136, (.aload_n 0, 1)) (List.mem_of_getElem? (i := 17) rfl))
theorem dX12_placing_137 : decode cX12_placing 137 = .ok (.getfield 36, 3) := of_decide_eq_true (List.all_eq_true.mp dsX12_placing_1_ok (137, (.getfield 36, 3)) (List.mem_of_getElem? (i := 18) rfl))
theorem dX12_placing_140 : decode cX12_placing 140 = .ok (.ifCond .ne 16, 3) := of_decide_eq_true (List.all_eq_true.mp dsX12_placing_1_ok (140, (.ifCond .ne 16, 3)) (List.mem_of_getElem? (i := 19) rfl))
theorem dX12_placing_143 : decode cX12_placing 143 = .ok (.aload_n 0, 1) := of_decide_eq_true (List.all_eq_true.mp dsX12_placing_1_ok (143, (.aload_n 0, 1)) (List.mem_of_getElem? (i := 20) rfl))
theorem dX12_placing_144 : decode cX12_placing 144 = .ok (.getfield 75, 3) := of_decide_eq_true (List.all_eq_true.mp dsX12_placing_1_ok (144, (.getfield 75, 3)) (List.mem_of_getElem? (i := 21) rfl))
theorem dX12_placing_147 : decode cX12_placing 147 = .ok (.aload_n 0, 1) := of_decide_eq_true (List.all_eq_true.mp dsX12_placing_1_ok (147, (.aload_n 0, 1)) (List.mem_of_getElem? (i := 22) rfl))
theorem dX12_placing_148 : decode cX12_placing 148 = .ok (.getfield 106, 3) := of_decide_eq_true (List.all_eq_true.mp dsX12_placing_1_ok (148, (.getfield 106, 3)) (List.mem_of_getElem? (i := 23) rfl))
theorem dX12_placing_151 : decode cX12_placing 151 = .ok (.dup2, 1) := of_decide_eq_true (List.all_eq_true.mp dsX12_placing_1_ok (151, (.dup2, 1)) (List.mem_of_getElem? (i := 24) rfl))
theorem dX12_placing_152 : decode cX12_placing 152 = .ok (.iaload, 1) := of_decide_eq_true (List.all_eq_true.mp dsX12_placing_1_ok (152, (.iaload, 1)) (List.mem_of_getElem? (i := 25) rfl))
theorem dX12_placing_153 : decode cX12_placing 153 = .ok (.iconst 1, 1) := of_decide_eq_true (List.all_eq_true.mp dsX12_placing_1_ok (153, (.iconst 1, 1)) (List.mem_of_getElem? (i := 26) rfl))
theorem dX12_placing_154 : decode cX12_placing 154 = .ok (.iadd, 1) := of_decide_eq_true (List.all_eq_true.mp dsX12_placing_1_ok (154, (.iadd, 1)) (List.mem_of_getElem? (i := 27) rfl))
theorem dX12_placing_155 : decode cX12_placing 155 = .ok (.iastore, 1) := of_decide_eq_true (List.all_eq_true.mp dsX12_placing_1_ok (155, (.iastore, 1)) (List.mem_of_getElem? (i := 28) rfl))
theorem dX12_placing_156 : decode cX12_placing 156 = .ok (.return_, 1) := of_decide_eq_true (List.all_eq_true.mp dsX12_placing_1_ok (156, (.return_, 1)) (List.mem_of_getElem? (i := 29) rfl))
def fX12_placing_b109 (N : Nat) (mm_tapeF : Nat → Int32) (mm_earsF : Nat → Int32) (mm_earNameL : Nat → Int64) (mm_milesToldF : Nat → Int32)   : ((Nat → Int32) × (Nat → Int64) × (Nat → Int32) × (Nat → Int64) × (Nat → Int32) × (Nat → Int32) × Int32 × Int32) → Option ((Nat → Int32) × (Nat → Int64) × (Nat → Int32) × (Nat → Int64) × (Nat → Int32) × (Nat → Int32)) :=
  fun (mmI_109, mmJ_109, mm_placesF_109, mm_placeNameL_109, mm_placeAtF_109, mm_talkToldF_109, x1_109, x3_109) => (xq_bd (xq_ast 12 mm_placeAtF_109 x1_109 x3_109) fun g_1 => (xq_bd (fX12_must_ N mmI_109 mmJ_109 mm_tapeF 1952541803) fun (r_2_0, r_2_1) => (xq_bd (fX12_number N r_2_0 r_2_1 mm_tapeF 0 9) fun (r_4_0, r_4_1, r_4_2) => (xq_bd (xq_ast 12 mm_talkToldF_109 x1_109 r_4_0) fun g_6 => (if (r_4_1 8) = 0 then (xq_bd (xq_ald 2 mm_placesF_109 (r_4_1 31)) fun v_7 => (xq_bd (xq_ast 2 mm_placesF_109 (r_4_1 31) (v_7 + 1)) fun g_8 => some ((r_4_1, r_4_2, g_8, mm_placeNameL_109, g_1, g_6)))) else some ((r_4_1, r_4_2, mm_placesF_109, mm_placeNameL_109, g_1, g_6)))))))
def fX12_placing_b20 (N : Nat) (mm_tapeF : Nat → Int32) (mm_earsF : Nat → Int32) (mm_earNameL : Nat → Int64) (mm_milesToldF : Nat → Int32)   : ((Nat → Int32) × (Nat → Int64) × (Nat → Int32) × (Nat → Int64) × (Nat → Int32) × (Nat → Int32) × Int32) → Option ((Nat → Int32) × (Nat → Int64) × (Nat → Int32) × (Nat → Int64) × (Nat → Int32) × (Nat → Int32)) :=
  fun (mmI_20, mmJ_20, mm_placesF_20, mm_placeNameL_20, mm_placeAtF_20, mm_talkToldF_20, y1_20) => (xq_bd (fX12_isCounted N mmI_20 mmJ_20 mm_tapeF y1_20) fun (r_9_0, r_9_1, r_9_2) => (if r_9_0 = 0 then some ((r_9_1, r_9_2, mm_placesF_20, mm_placeNameL_20, mm_placeAtF_20, mm_talkToldF_20)) else (xq_bd (xq_ald 2 mm_placesF_20 (r_9_1 31)) fun v_11 => (xq_bd (fX12_fresh N r_9_1 r_9_2 mm_earsF mm_earNameL mm_placesF_20 mm_placeNameL_20 mm_tapeF) fun (r_12_0, r_12_1, r_12_2) => (xq_bd (xq_astL 12 mm_placeNameL_20 ((6 * (r_9_1 31)) + v_11) r_12_0) fun g_14 => (xq_bd (fX12_must_ N r_12_1 r_12_2 mm_tapeF 24948) fun (r_15_0, r_15_1) => (xq_bd (fX12_lex N r_15_0) fun r_17 => (xq_bd (xq_ald 2 mm_milesToldF (r_17 31)) fun v_19 => (xq_bd (fX12_number N r_17 r_15_1 mm_tapeF 1 (v_19 - 1)) fun (r_20_0, r_20_1, r_20_2) => (if (r_20_1 8) = 0 then (xq_bd (fX12_isPlaceAt N r_20_1 mm_placesF_20 mm_placeAtF_20 r_20_0) fun r_22 => (if r_22 = 0 then fX12_placing_b109 N mm_tapeF mm_earsF mm_earNameL mm_milesToldF (r_20_1, r_20_2, mm_placesF_20, g_14, mm_placeAtF_20, mm_talkToldF_20, (6 * (r_9_1 31)) + v_11, r_20_0) else (xq_bd (fX12_blame N r_20_1 4 (r_17 4)) fun r_24 => fX12_placing_b109 N mm_tapeF mm_earsF mm_earNameL mm_milesToldF (r_24, r_20_2, mm_placesF_20, g_14, mm_placeAtF_20, mm_talkToldF_20, (6 * (r_9_1 31)) + v_11, r_20_0)))) else fX12_placing_b109 N mm_tapeF mm_earsF mm_earNameL mm_milesToldF (r_20_1, r_20_2, mm_placesF_20, g_14, mm_placeAtF_20, mm_talkToldF_20, (6 * (r_9_1 31)) + v_11, r_20_0)))))))))))
def fX12_placing (N : Nat) (mmI : Nat → Int32) (mmJ : Nat → Int64) (mm_placesF : Nat → Int32) (mm_tapeF : Nat → Int32) (mm_earsF : Nat → Int32) (mm_earNameL : Nat → Int64) (mm_placeNameL : Nat → Int64) (mm_milesToldF : Nat → Int32) (mm_placeAtF : Nat → Int32) (mm_talkToldF : Nat → Int32)   : Option ((Nat → Int32) × (Nat → Int64) × (Nat → Int32) × (Nat → Int64) × (Nat → Int32) × (Nat → Int32)) :=
  (xq_bd (xq_ald 2 mm_placesF (mmI 31)) fun v_1 => (if v_1 = 6 then fX12_placing_b20 N mm_tapeF mm_earsF mm_earNameL mm_milesToldF (mmI, mmJ, mm_placesF, mm_placeNameL, mm_placeAtF, mm_talkToldF, 1) else fX12_placing_b20 N mm_tapeF mm_earsF mm_earNameL mm_milesToldF (mmI, mmJ, mm_placesF, mm_placeNameL, mm_placeAtF, mm_talkToldF, 0)))
set_option maxHeartbeats 4000000 in
set_option maxRecDepth 100000 in
theorem kX12_placing (l : Launch) (dC : Nat → ClassId) (dI : Nat → Nat → Nat) (cI cB cJ cZ cM : ClassId) (z : Nat) (ad : Nat → Nat) (N : Nat) (a_p0 : Nat) (mmI : Nat → Int32) (mmJ : Nat → Int64) (mmR : Nat → Nat) (mm_placesF : Nat → Int32) (mm_tapeF : Nat → Int32) (mm_earsF : Nat → Int32) (mm_earNameL : Nat → Int64) (mm_placeNameL : Nat → Int64) (mm_milesToldF : Nat → Int32) (mm_placeAtF : Nat → Int32) (mm_talkToldF : Nat → Int32) {r0 : Nat → Int32} {r1 : Nat → Int64} {r2 : Nat → Int32} {r3 : Nat → Int64} {r4 : Nat → Int32} {r5 : Nat → Int32} (hf : fX12_placing N mmI mmJ mm_placesF mm_tapeF mm_earsF mm_earNameL mm_placeNameL mm_milesToldF mm_placeAtF mm_talkToldF = some (r0, r1, r2, r3, r4, r5)) : xq_Ct l yX12_placing wsX12_placing { frames := 3, cells := 0, slots := 0, locals := 68 } (dC, dI) vwCl (xq_tys cI cB cJ cZ cM) z ad [.ref a_p0] [(a_p0, .inr (12, oX12 mmI mmJ mmR)), ((mmR 21), .inl (cI, 2, .inl mm_placesF)), ((mmR 0), .inl (cI, 1800, .inl mm_tapeF)), ((mmR 18), .inl (cI, 2, .inl mm_earsF)), ((mmR 28), .inl (cJ, 14, .inr (.inl mm_earNameL))), ((mmR 29), .inl (cJ, 12, .inr (.inl mm_placeNameL))), ((mmR 14), .inl (cI, 2, .inl mm_milesToldF)), ((mmR 22), .inl (cI, 12, .inl mm_placeAtF)), ((mmR 23), .inl (cI, 12, .inl mm_talkToldF))] [(a_p0, .inr (12, oX12 r0 r1 mmR)), ((mmR 21), .inl (cI, 2, .inl r2)), ((mmR 0), .inl (cI, 1800, .inl mm_tapeF)), ((mmR 18), .inl (cI, 2, .inl mm_earsF)), ((mmR 28), .inl (cJ, 14, .inr (.inl mm_earNameL))), ((mmR 29), .inl (cJ, 12, .inr (.inl r3))), ((mmR 14), .inl (cI, 2, .inl mm_milesToldF)), ((mmR 22), .inl (cI, 12, .inl r4)), ((mmR 23), .inl (cI, 12, .inl r5))] none := by
  intro sz
  refine Met.ofW (cc := cX12_placing) (maxL := 4) (ret := none) (by decide) rfl ?_
  intro p e s m args below meth c s₁ B hml hv
  obtain ⟨rfl, hsz, hP, hK, hD0, hE, hz⟩ := hv
  have hx := B.exec
  have hb := B.bytes
  have hr := B.returns
  have hts := atoms_spec (ws := wsX12_placing) B.pre
  have hown : s.vm.findClass RX12 = some m.cls := findClass_of_methodNamed B.named
  have hlocks := B.notSynchronized
  subst hsz
  have hD := hD0.self (sz := s.heap.size)
  have hN := xq_Env.of hE hz hD0
  generalize hAe : va_A [(a_p0, .inr (12, oX12 mmI mmJ mmR)), ((mmR 21), .inl (cI, 2, .inl mm_placesF)), ((mmR 0), .inl (cI, 1800, .inl mm_tapeF)), ((mmR 18), .inl (cI, 2, .inl mm_earsF)), ((mmR 28), .inl (cJ, 14, .inr (.inl mm_earNameL))), ((mmR 29), .inl (cJ, 12, .inr (.inl mm_placeNameL))), ((mmR 14), .inl (cI, 2, .inl mm_milesToldF)), ((mmR 22), .inl (cI, 12, .inl mm_placeAtF)), ((mmR 23), .inl (cI, 12, .inl mm_talkToldF))] s.heap.size = A at hD hN ⊢
  have hA : ∀ q : Nat, s.heap.size ≤ q → A q := fun q h => by rw [← hAe]; exact Or.inr h
  clear hAe hD0
  have hS : va_S A s.heap s.heap [] := va_S.rf
  have hl := lv_entry ([.ref a_p0]) (n := 4) (Nat.le_of_ble_eq_true rfl)
  rw [lg_entry_eq]
  generalize (lg_sl ([.ref a_p0]) ++ List.replicate (4 - (lg_sl ([.ref a_p0])).length) Slot.unset).toArray = ls at hl ⊢
  have hl : lv_has ls 4 [(0, .ref a_p0)] := hl
  have hw0 := hts (.fieldLink RX12 75 "DistantVoiceModel" "places" "[I") (by decide +kernel)
  have hinX12 : ∀ w ∈ wsX120, w ∈ wsX12_placing := fun w h => List.mem_cons_of_mem _ (List.mem_append_right _ h)
  have hw2 := hts (.fieldLink RX12 106 "DistantVoiceModel" "in" "I") (by decide +kernel)
  have hw3 := hts (.fieldLink RX12 100 "DistantVoiceModel" "placeName" "[J") (by decide +kernel)
  have hw4 := hts (.constantLong RX12 269 (24948)) (by decide +kernel)
  have hw5 := hts (.fieldLink RX12 23 "DistantVoiceModel" "signAt" "I") (by decide +kernel)
  have hw6 := hts (.fieldLink RX12 54 "DistantVoiceModel" "milesTold" "[I") (by decide +kernel)
  have hw7 := hts (.fieldLink RX12 36 "DistantVoiceModel" "faultKind" "I") (by decide +kernel)
  have hw8 := hts (.fieldLink RX12 78 "DistantVoiceModel" "placeAt" "[I") (by decide +kernel)
  have hw9 := hts (.constantLong RX12 271 (1952541803)) (by decide +kernel)
  have hw10 := hts (.fieldLink RX12 81 "DistantVoiceModel" "talkTold" "[I") (by decide +kernel)
  have b109 : ∀ (mmI_109 : Nat → Int32) (mmJ_109 : Nat → Int64) (mm_placesF_109 : Nat → Int32) (mm_placeNameL_109 : Nat → Int64) (mm_placeAtF_109 : Nat → Int32) (mm_talkToldF_109 : Nat → Int32) (x1_109 : Int32) (x3_109 : Int32) (ls : Array Slot) (H : Heap) (locs : List Loc), fX12_placing_b109 N mm_tapeF mm_earsF mm_earNameL mm_milesToldF (mmI_109, mmJ_109, mm_placesF_109, mm_placeNameL_109, mm_placeAtF_109, mm_talkToldF_109, x1_109, x3_109) = some (r0, r1, r2, r3, r4, r5) → va_P (dC, dI) vwCl [(a_p0, .inr (12, oX12 mmI_109 mmJ_109 mmR)), ((mmR 21), .inl (cI, 2, .inl mm_placesF_109)), ((mmR 0), .inl (cI, 1800, .inl mm_tapeF)), ((mmR 18), .inl (cI, 2, .inl mm_earsF)), ((mmR 28), .inl (cJ, 14, .inr (.inl mm_earNameL))), ((mmR 29), .inl (cJ, 12, .inr (.inl mm_placeNameL_109))), ((mmR 14), .inl (cI, 2, .inl mm_milesToldF)), ((mmR 22), .inl (cI, 12, .inl mm_placeAtF_109)), ((mmR 23), .inl (cI, 12, .inl mm_talkToldF_109))] H → va_D A [(a_p0, .inr (12, oX12 mmI_109 mmJ_109 mmR)), ((mmR 21), .inl (cI, 2, .inl mm_placesF_109)), ((mmR 0), .inl (cI, 1800, .inl mm_tapeF)), ((mmR 18), .inl (cI, 2, .inl mm_earsF)), ((mmR 28), .inl (cJ, 14, .inr (.inl mm_earNameL))), ((mmR 29), .inl (cJ, 12, .inr (.inl mm_placeNameL_109))), ((mmR 14), .inl (cI, 2, .inl mm_milesToldF)), ((mmR 22), .inl (cI, 12, .inl mm_placeAtF_109)), ((mmR 23), .inl (cI, 12, .inl mm_talkToldF_109))] → va_S A s.heap H locs → lv_has ls 4 [(0, .ref a_p0), (1, .int x1_109), (3, .int x3_109)] → W p l e (headSpec wsX12_placing { frames := 3, cells := 0, slots := 0, locals := 68 }).room s m [.ref a_p0].toArray below meth c H locs 0 0 (MQ below (xq_Q (dC, dI) vwCl (xq_tys cI cB cJ cZ cM) A [(a_p0, .inr (12, oX12 r0 r1 mmR)), ((mmR 21), .inl (cI, 2, .inl r2)), ((mmR 0), .inl (cI, 1800, .inl mm_tapeF)), ((mmR 18), .inl (cI, 2, .inl mm_earsF)), ((mmR 28), .inl (cJ, 14, .inr (.inl mm_earNameL))), ((mmR 29), .inl (cJ, 12, .inr (.inl r3))), ((mmR 14), .inl (cI, 2, .inl mm_milesToldF)), ((mmR 22), .inl (cI, 12, .inl r4)), ((mmR 23), .inl (cI, 12, .inl r5))] none) [.ref a_p0].toArray s 0 0 A) (F0 m 109 ls []) := by
    intro mmI_109 mmJ_109 mm_placesF_109 mm_placeNameL_109 mm_placeAtF_109 mm_talkToldF_109 x1_109 x3_109 ls H locs hf hP hD hS hl
    unfold fX12_placing_b109 at hf
    refine lv_aload_n hx hb dX12_placing_109 rfl (lv_at hl 0 rfl) ?_
    refine va_get (D := (dC, dI)) (ci := 12) (v := .ref ((mmR 22))) (C := RX12) (T := TX12) (N := 70) hx hb hts hinX12 hown hK hP 0 rfl rfl 22 (by decide) hw8 (fun _ h9 => h9) rfl dX12_placing_110 ?_
    refine lv_iload_n hx hb dX12_placing_113 rfl (lv_at hl 1 rfl) ?_
    refine lv_iload_n hx hb dX12_placing_114 rfl (lv_at hl 2 rfl) ?_
    refine xq_iast hx hb hK hP hD hS 7 0 rfl rfl hf dX12_placing_115 (fun g_1 H locs hf hP hD hS => ?_)
    have hP : va_P (dC, dI) vwCl [(a_p0, .inr (12, oX12 mmI_109 mmJ_109 mmR)), ((mmR 21), .inl (cI, 2, .inl mm_placesF_109)), ((mmR 0), .inl (cI, 1800, .inl mm_tapeF)), ((mmR 18), .inl (cI, 2, .inl mm_earsF)), ((mmR 28), .inl (cJ, 14, .inr (.inl mm_earNameL))), ((mmR 29), .inl (cJ, 12, .inr (.inl mm_placeNameL_109))), ((mmR 14), .inl (cI, 2, .inl mm_milesToldF)), ((mmR 22), .inl (cI, 12, .inl g_1)), ((mmR 23), .inl (cI, 12, .inl mm_talkToldF_109))] H := hP
    have hD : va_D A [(a_p0, .inr (12, oX12 mmI_109 mmJ_109 mmR)), ((mmR 21), .inl (cI, 2, .inl mm_placesF_109)), ((mmR 0), .inl (cI, 1800, .inl mm_tapeF)), ((mmR 18), .inl (cI, 2, .inl mm_earsF)), ((mmR 28), .inl (cJ, 14, .inr (.inl mm_earNameL))), ((mmR 29), .inl (cJ, 12, .inr (.inl mm_placeNameL_109))), ((mmR 14), .inl (cI, 2, .inl mm_milesToldF)), ((mmR 22), .inl (cI, 12, .inl g_1)), ((mmR 23), .inl (cI, 12, .inl mm_talkToldF_109))] := hD
    refine lv_aload_n hx hb dX12_placing_116 rfl (lv_at hl 0 rfl) ?_
    refine lv_ldc2 (v := 1952541803) hx hb hown hw9 dX12_placing_117 ?_
    obtain ⟨⟨r_2_0, r_2_1⟩, h_3, hf⟩ := xq_bd_some hf
    refine xq_callV (As := [.long 1952541803]) (rest := []) (ci := 12) (q0 := 0) ⟨hx, hb, hml, hown, hts⟩ (kX12_must_ l dC dI cI cB cJ cZ cM z ad N a_p0 mmI_109 mmJ_109 mmR mm_tapeF 1952541803 h_3) (cwV 1 hts gX12_placing_X12_must_ rfl rfl rfl (by decide +kernel) ⟨Nat.le_of_ble_eq_true rfl, Nat.le_of_ble_eq_true rfl⟩) hN hK hP hD hS hA [0, 2] (by decide) rfl rfl rfl rfl rfl rfl hl.1 rfl (Nat.le_of_ble_eq_true rfl) dX12_placing_120 ⟨Nat.zero_le _, Nat.zero_le _⟩ (fun H locs hP hD hS => ?_)
    have hP : va_P (dC, dI) vwCl [(a_p0, .inr (12, oX12 r_2_0 r_2_1 mmR)), ((mmR 21), .inl (cI, 2, .inl mm_placesF_109)), ((mmR 0), .inl (cI, 1800, .inl mm_tapeF)), ((mmR 18), .inl (cI, 2, .inl mm_earsF)), ((mmR 28), .inl (cJ, 14, .inr (.inl mm_earNameL))), ((mmR 29), .inl (cJ, 12, .inr (.inl mm_placeNameL_109))), ((mmR 14), .inl (cI, 2, .inl mm_milesToldF)), ((mmR 22), .inl (cI, 12, .inl g_1)), ((mmR 23), .inl (cI, 12, .inl mm_talkToldF_109))] H := hP
    have hD : va_D A [(a_p0, .inr (12, oX12 r_2_0 r_2_1 mmR)), ((mmR 21), .inl (cI, 2, .inl mm_placesF_109)), ((mmR 0), .inl (cI, 1800, .inl mm_tapeF)), ((mmR 18), .inl (cI, 2, .inl mm_earsF)), ((mmR 28), .inl (cJ, 14, .inr (.inl mm_earNameL))), ((mmR 29), .inl (cJ, 12, .inr (.inl mm_placeNameL_109))), ((mmR 14), .inl (cI, 2, .inl mm_milesToldF)), ((mmR 22), .inl (cI, 12, .inl g_1)), ((mmR 23), .inl (cI, 12, .inl mm_talkToldF_109))] := hD
    refine W.eq (g2 := F0 m 123 ls []) rfl ?_
    refine lv_aload_n hx hb dX12_placing_123 rfl (lv_at hl 0 rfl) ?_
    refine va_get (D := (dC, dI)) (ci := 12) (v := .ref ((mmR 23))) (C := RX12) (T := TX12) (N := 70) hx hb hts hinX12 hown hK hP 0 rfl rfl 23 (by decide) hw10 (fun _ h9 => h9) rfl dX12_placing_124 ?_
    refine lv_iload_n hx hb dX12_placing_127 rfl (lv_at hl 1 rfl) ?_
    refine lv_aload_n hx hb dX12_placing_128 rfl (lv_at hl 0 rfl) ?_
    refine lv_iconst (v := 0) hx hb dX12_placing_129 (by decide) ?_
    refine lv_bipush (v := 9) hx hb dX12_placing_130 (by decide) ?_
    obtain ⟨⟨r_4_0, r_4_1, r_4_2⟩, h_5, hf⟩ := xq_bd_some hf
    refine xq_callV (As := [.int 0, .int 9]) (rest := [.int x1_109, .ref ((mmR 23))]) (ci := 12) (q0 := 0) ⟨hx, hb, hml, hown, hts⟩ (kX12_number l dC dI cI cB cJ cZ cM z ad N a_p0 r_2_0 r_2_1 mmR mm_tapeF 0 9 h_5) (cwV 2 hts gX12_placing_X12_number rfl rfl rfl (by decide +kernel) ⟨Nat.le_of_ble_eq_true rfl, Nat.le_of_ble_eq_true rfl⟩) hN hK hP hD hS hA [0, 2] (by decide) rfl rfl rfl rfl rfl rfl hl.1 rfl (Nat.le_of_ble_eq_true rfl) dX12_placing_132 ⟨Nat.zero_le _, Nat.zero_le _⟩ (fun H locs hP hD hS => ?_)
    have hP : va_P (dC, dI) vwCl [(a_p0, .inr (12, oX12 r_4_1 r_4_2 mmR)), ((mmR 21), .inl (cI, 2, .inl mm_placesF_109)), ((mmR 0), .inl (cI, 1800, .inl mm_tapeF)), ((mmR 18), .inl (cI, 2, .inl mm_earsF)), ((mmR 28), .inl (cJ, 14, .inr (.inl mm_earNameL))), ((mmR 29), .inl (cJ, 12, .inr (.inl mm_placeNameL_109))), ((mmR 14), .inl (cI, 2, .inl mm_milesToldF)), ((mmR 22), .inl (cI, 12, .inl g_1)), ((mmR 23), .inl (cI, 12, .inl mm_talkToldF_109))] H := hP
    have hD : va_D A [(a_p0, .inr (12, oX12 r_4_1 r_4_2 mmR)), ((mmR 21), .inl (cI, 2, .inl mm_placesF_109)), ((mmR 0), .inl (cI, 1800, .inl mm_tapeF)), ((mmR 18), .inl (cI, 2, .inl mm_earsF)), ((mmR 28), .inl (cJ, 14, .inr (.inl mm_earNameL))), ((mmR 29), .inl (cJ, 12, .inr (.inl mm_placeNameL_109))), ((mmR 14), .inl (cI, 2, .inl mm_milesToldF)), ((mmR 22), .inl (cI, 12, .inl g_1)), ((mmR 23), .inl (cI, 12, .inl mm_talkToldF_109))] := hD
    refine W.eq (g2 := F0 m 135 ls [.int r_4_0, .int x1_109, .ref ((mmR 23))]) rfl ?_
    refine xq_iast hx hb hK hP hD hS 8 0 rfl rfl hf dX12_placing_135 (fun g_6 H locs hf hP hD hS => ?_)
    have hP : va_P (dC, dI) vwCl [(a_p0, .inr (12, oX12 r_4_1 r_4_2 mmR)), ((mmR 21), .inl (cI, 2, .inl mm_placesF_109)), ((mmR 0), .inl (cI, 1800, .inl mm_tapeF)), ((mmR 18), .inl (cI, 2, .inl mm_earsF)), ((mmR 28), .inl (cJ, 14, .inr (.inl mm_earNameL))), ((mmR 29), .inl (cJ, 12, .inr (.inl mm_placeNameL_109))), ((mmR 14), .inl (cI, 2, .inl mm_milesToldF)), ((mmR 22), .inl (cI, 12, .inl g_1)), ((mmR 23), .inl (cI, 12, .inl g_6))] H := hP
    have hD : va_D A [(a_p0, .inr (12, oX12 r_4_1 r_4_2 mmR)), ((mmR 21), .inl (cI, 2, .inl mm_placesF_109)), ((mmR 0), .inl (cI, 1800, .inl mm_tapeF)), ((mmR 18), .inl (cI, 2, .inl mm_earsF)), ((mmR 28), .inl (cJ, 14, .inr (.inl mm_earNameL))), ((mmR 29), .inl (cJ, 12, .inr (.inl mm_placeNameL_109))), ((mmR 14), .inl (cI, 2, .inl mm_milesToldF)), ((mmR 22), .inl (cI, 12, .inl g_1)), ((mmR 23), .inl (cI, 12, .inl g_6))] := hD
    refine lv_aload_n hx hb dX12_placing_136 rfl (lv_at hl 0 rfl) ?_
    refine va_get (D := (dC, dI)) (ci := 12) (v := .int (r_4_1 8)) (C := RX12) (T := TX12) (N := 70) hx hb hts hinX12 hown hK hP 0 rfl rfl 8 (by decide) hw7 (fun _ h9 => h9) rfl dX12_placing_137 ?_
    refine lv_if_ne (tgt := 156) hx hb dX12_placing_140 (by decide) (fun c_ => ?_) (fun c_ => ?_)
    · have hf := xq_neg hf c_
      have e9 := Option.some.inj hf
      have e9_0 : r_4_1 = r0 := congrArg (fun t => t.1) e9
      have e9_1 : r_4_2 = r1 := congrArg (fun t => t.2.1) e9
      have e9_2 : mm_placesF_109 = r2 := congrArg (fun t => t.2.2.1) e9
      have e9_3 : mm_placeNameL_109 = r3 := congrArg (fun t => t.2.2.2.1) e9
      have e9_4 : g_1 = r4 := congrArg (fun t => t.2.2.2.2.1) e9
      have e9_5 : g_6 = r5 := congrArg (fun t => t.2.2.2.2.2) e9
      clear e9 hf
      try clear b109
      try clear b20
      subst e9_0
      subst e9_1
      subst e9_2
      subst e9_3
      subst e9_4
      subst e9_5
      exact xq_vret hx hb hr hlocks hK hP hD hS dX12_placing_156
    · have hf := xq_pos hf c_
      refine lv_aload_n hx hb dX12_placing_143 rfl (lv_at hl 0 rfl) ?_
      refine va_get (D := (dC, dI)) (ci := 12) (v := .ref ((mmR 21))) (C := RX12) (T := TX12) (N := 70) hx hb hts hinX12 hown hK hP 0 rfl rfl 21 (by decide) hw0 (fun _ h9 => h9) rfl dX12_placing_144 ?_
      refine lv_aload_n hx hb dX12_placing_147 rfl (lv_at hl 0 rfl) ?_
      refine va_get (D := (dC, dI)) (ci := 12) (v := .int (r_4_1 31)) (C := RX12) (T := TX12) (N := 70) hx hb hts hinX12 hown hK hP 0 rfl rfl 31 (by decide) hw2 (fun _ h9 => h9) rfl dX12_placing_148 ?_
      refine lv_dup2_11 hx hb dX12_placing_151 rfl rfl ?_
      refine xq_iald hx hb hK hP 1 0 rfl rfl hf dX12_placing_152 (fun v_7 hf => ?_)
      refine lv_iconst (v := 1) hx hb dX12_placing_153 (by decide) ?_
      refine lv_iadd hx hb dX12_placing_154 ?_
      refine xq_iast hx hb hK hP hD hS 1 0 rfl rfl hf dX12_placing_155 (fun g_8 H locs hf hP hD hS => ?_)
      have hP : va_P (dC, dI) vwCl [(a_p0, .inr (12, oX12 r_4_1 r_4_2 mmR)), ((mmR 21), .inl (cI, 2, .inl g_8)), ((mmR 0), .inl (cI, 1800, .inl mm_tapeF)), ((mmR 18), .inl (cI, 2, .inl mm_earsF)), ((mmR 28), .inl (cJ, 14, .inr (.inl mm_earNameL))), ((mmR 29), .inl (cJ, 12, .inr (.inl mm_placeNameL_109))), ((mmR 14), .inl (cI, 2, .inl mm_milesToldF)), ((mmR 22), .inl (cI, 12, .inl g_1)), ((mmR 23), .inl (cI, 12, .inl g_6))] H := hP
      have hD : va_D A [(a_p0, .inr (12, oX12 r_4_1 r_4_2 mmR)), ((mmR 21), .inl (cI, 2, .inl g_8)), ((mmR 0), .inl (cI, 1800, .inl mm_tapeF)), ((mmR 18), .inl (cI, 2, .inl mm_earsF)), ((mmR 28), .inl (cJ, 14, .inr (.inl mm_earNameL))), ((mmR 29), .inl (cJ, 12, .inr (.inl mm_placeNameL_109))), ((mmR 14), .inl (cI, 2, .inl mm_milesToldF)), ((mmR 22), .inl (cI, 12, .inl g_1)), ((mmR 23), .inl (cI, 12, .inl g_6))] := hD
      have e9 := Option.some.inj hf
      have e9_0 : r_4_1 = r0 := congrArg (fun t => t.1) e9
      have e9_1 : r_4_2 = r1 := congrArg (fun t => t.2.1) e9
      have e9_2 : g_8 = r2 := congrArg (fun t => t.2.2.1) e9
      have e9_3 : mm_placeNameL_109 = r3 := congrArg (fun t => t.2.2.2.1) e9
      have e9_4 : g_1 = r4 := congrArg (fun t => t.2.2.2.2.1) e9
      have e9_5 : g_6 = r5 := congrArg (fun t => t.2.2.2.2.2) e9
      clear e9 hf
      try clear b109
      try clear b20
      subst e9_0
      subst e9_1
      subst e9_2
      subst e9_3
      subst e9_4
      subst e9_5
      exact xq_vret hx hb hr hlocks hK hP hD hS dX12_placing_156
  have b20 : ∀ (mmI_20 : Nat → Int32) (mmJ_20 : Nat → Int64) (mm_placesF_20 : Nat → Int32) (mm_placeNameL_20 : Nat → Int64) (mm_placeAtF_20 : Nat → Int32) (mm_talkToldF_20 : Nat → Int32) (y1_20 : Int32) (ls : Array Slot) (H : Heap) (locs : List Loc), fX12_placing_b20 N mm_tapeF mm_earsF mm_earNameL mm_milesToldF (mmI_20, mmJ_20, mm_placesF_20, mm_placeNameL_20, mm_placeAtF_20, mm_talkToldF_20, y1_20) = some (r0, r1, r2, r3, r4, r5) → va_P (dC, dI) vwCl [(a_p0, .inr (12, oX12 mmI_20 mmJ_20 mmR)), ((mmR 21), .inl (cI, 2, .inl mm_placesF_20)), ((mmR 0), .inl (cI, 1800, .inl mm_tapeF)), ((mmR 18), .inl (cI, 2, .inl mm_earsF)), ((mmR 28), .inl (cJ, 14, .inr (.inl mm_earNameL))), ((mmR 29), .inl (cJ, 12, .inr (.inl mm_placeNameL_20))), ((mmR 14), .inl (cI, 2, .inl mm_milesToldF)), ((mmR 22), .inl (cI, 12, .inl mm_placeAtF_20)), ((mmR 23), .inl (cI, 12, .inl mm_talkToldF_20))] H → va_D A [(a_p0, .inr (12, oX12 mmI_20 mmJ_20 mmR)), ((mmR 21), .inl (cI, 2, .inl mm_placesF_20)), ((mmR 0), .inl (cI, 1800, .inl mm_tapeF)), ((mmR 18), .inl (cI, 2, .inl mm_earsF)), ((mmR 28), .inl (cJ, 14, .inr (.inl mm_earNameL))), ((mmR 29), .inl (cJ, 12, .inr (.inl mm_placeNameL_20))), ((mmR 14), .inl (cI, 2, .inl mm_milesToldF)), ((mmR 22), .inl (cI, 12, .inl mm_placeAtF_20)), ((mmR 23), .inl (cI, 12, .inl mm_talkToldF_20))] → va_S A s.heap H locs → lv_has ls 4 [(0, .ref a_p0)] → W p l e (headSpec wsX12_placing { frames := 3, cells := 0, slots := 0, locals := 68 }).room s m [.ref a_p0].toArray below meth c H locs 0 0 (MQ below (xq_Q (dC, dI) vwCl (xq_tys cI cB cJ cZ cM) A [(a_p0, .inr (12, oX12 r0 r1 mmR)), ((mmR 21), .inl (cI, 2, .inl r2)), ((mmR 0), .inl (cI, 1800, .inl mm_tapeF)), ((mmR 18), .inl (cI, 2, .inl mm_earsF)), ((mmR 28), .inl (cJ, 14, .inr (.inl mm_earNameL))), ((mmR 29), .inl (cJ, 12, .inr (.inl r3))), ((mmR 14), .inl (cI, 2, .inl mm_milesToldF)), ((mmR 22), .inl (cI, 12, .inl r4)), ((mmR 23), .inl (cI, 12, .inl r5))] none) [.ref a_p0].toArray s 0 0 A) (F0 m 20 ls [.int y1_20, .ref a_p0]) := by
    intro mmI_20 mmJ_20 mm_placesF_20 mm_placeNameL_20 mm_placeAtF_20 mm_talkToldF_20 y1_20 ls H locs hf hP hD hS hl
    unfold fX12_placing_b20 at hf
    obtain ⟨⟨r_1_0, r_1_1, r_1_2⟩, h_2, hf⟩ := xq_bd_some hf
    refine xq_callV (As := [.int y1_20]) (rest := []) (ci := 12) (q0 := 0) ⟨hx, hb, hml, hown, hts⟩ (kX12_isCounted l dC dI cI cB cJ cZ cM z ad N a_p0 mmI_20 mmJ_20 mmR mm_tapeF y1_20 h_2) (cwV 1 hts gX12_placing_X12_isCounted rfl rfl rfl (by decide +kernel) ⟨Nat.le_of_ble_eq_true rfl, Nat.le_of_ble_eq_true rfl⟩) hN hK hP hD hS hA [0, 2] (by decide) rfl rfl rfl rfl rfl rfl hl.1 rfl (Nat.le_of_ble_eq_true rfl) dX12_placing_20 ⟨Nat.zero_le _, Nat.zero_le _⟩ (fun H locs hP hD hS => ?_)
    have hP : va_P (dC, dI) vwCl [(a_p0, .inr (12, oX12 r_1_1 r_1_2 mmR)), ((mmR 21), .inl (cI, 2, .inl mm_placesF_20)), ((mmR 0), .inl (cI, 1800, .inl mm_tapeF)), ((mmR 18), .inl (cI, 2, .inl mm_earsF)), ((mmR 28), .inl (cJ, 14, .inr (.inl mm_earNameL))), ((mmR 29), .inl (cJ, 12, .inr (.inl mm_placeNameL_20))), ((mmR 14), .inl (cI, 2, .inl mm_milesToldF)), ((mmR 22), .inl (cI, 12, .inl mm_placeAtF_20)), ((mmR 23), .inl (cI, 12, .inl mm_talkToldF_20))] H := hP
    have hD : va_D A [(a_p0, .inr (12, oX12 r_1_1 r_1_2 mmR)), ((mmR 21), .inl (cI, 2, .inl mm_placesF_20)), ((mmR 0), .inl (cI, 1800, .inl mm_tapeF)), ((mmR 18), .inl (cI, 2, .inl mm_earsF)), ((mmR 28), .inl (cJ, 14, .inr (.inl mm_earNameL))), ((mmR 29), .inl (cJ, 12, .inr (.inl mm_placeNameL_20))), ((mmR 14), .inl (cI, 2, .inl mm_milesToldF)), ((mmR 22), .inl (cI, 12, .inl mm_placeAtF_20)), ((mmR 23), .inl (cI, 12, .inl mm_talkToldF_20))] := hD
    refine W.eq (g2 := F0 m 23 ls [.int r_1_0]) rfl ?_
    refine lv_if_ne (tgt := 27) hx hb dX12_placing_23 (by decide) (fun c_ => ?_) (fun c_ => ?_)
    · have hf := xq_neg hf c_
      refine lv_bipush (v := 6) hx hb dX12_placing_27 (by decide) ?_
      refine lv_aload_n hx hb dX12_placing_29 rfl (lv_at hl 0 rfl) ?_
      refine va_get (D := (dC, dI)) (ci := 12) (v := .int (r_1_1 31)) (C := RX12) (T := TX12) (N := 70) hx hb hts hinX12 hown hK hP 0 rfl rfl 31 (by decide) hw2 (fun _ h9 => h9) rfl dX12_placing_30 ?_
      refine lv_imul hx hb dX12_placing_33 ?_
      refine lv_aload_n hx hb dX12_placing_34 rfl (lv_at hl 0 rfl) ?_
      refine va_get (D := (dC, dI)) (ci := 12) (v := .ref ((mmR 21))) (C := RX12) (T := TX12) (N := 70) hx hb hts hinX12 hown hK hP 0 rfl rfl 21 (by decide) hw0 (fun _ h9 => h9) rfl dX12_placing_35 ?_
      refine lv_aload_n hx hb dX12_placing_38 rfl (lv_at hl 0 rfl) ?_
      refine va_get (D := (dC, dI)) (ci := 12) (v := .int (r_1_1 31)) (C := RX12) (T := TX12) (N := 70) hx hb hts hinX12 hown hK hP 0 rfl rfl 31 (by decide) hw2 (fun _ h9 => h9) rfl dX12_placing_39 ?_
      refine xq_iald hx hb hK hP 1 0 rfl rfl hf dX12_placing_42 (fun v_3 hf => ?_)
      refine lv_iadd hx hb dX12_placing_43 ?_
      refine lv_istore_n (lv' := [(1, .int ((6 * (r_1_1 31)) + v_3)), (0, .ref a_p0)]) hx hb dX12_placing_44 rfl hl (by decide) rfl (fun ls hl => ?_)
      refine lv_aload_n hx hb dX12_placing_45 rfl (lv_at hl 1 rfl) ?_
      refine va_get (D := (dC, dI)) (ci := 12) (v := .ref ((mmR 29))) (C := RX12) (T := TX12) (N := 70) hx hb hts hinX12 hown hK hP 0 rfl rfl 29 (by decide) hw3 (fun _ h9 => h9) rfl dX12_placing_46 ?_
      refine lv_iload_n hx hb dX12_placing_49 rfl (lv_at hl 0 rfl) ?_
      refine lv_aload_n hx hb dX12_placing_50 rfl (lv_at hl 1 rfl) ?_
      obtain ⟨⟨r_4_0, r_4_1, r_4_2⟩, h_5, hf⟩ := xq_bd_some hf
      refine xq_callV (As := []) (rest := [.int ((6 * (r_1_1 31)) + v_3), .ref ((mmR 29))]) (ci := 12) (q0 := 0) ⟨hx, hb, hml, hown, hts⟩ (kX12_fresh l dC dI cI cB cJ cZ cM z ad N a_p0 r_1_1 r_1_2 mmR mm_earsF mm_earNameL mm_placesF_20 mm_placeNameL_20 mm_tapeF h_5) (cwV 0 hts gX12_placing_X12_fresh rfl rfl rfl (by decide +kernel) ⟨Nat.le_of_ble_eq_true rfl, Nat.le_of_ble_eq_true rfl⟩) hN hK hP hD hS hA [0, 3, 4, 1, 5, 2] (by decide) rfl rfl rfl rfl rfl rfl hl.1 rfl (Nat.le_of_ble_eq_true rfl) dX12_placing_51 ⟨Nat.zero_le _, Nat.zero_le _⟩ (fun H locs hP hD hS => ?_)
      have hP : va_P (dC, dI) vwCl [(a_p0, .inr (12, oX12 r_4_1 r_4_2 mmR)), ((mmR 21), .inl (cI, 2, .inl mm_placesF_20)), ((mmR 0), .inl (cI, 1800, .inl mm_tapeF)), ((mmR 18), .inl (cI, 2, .inl mm_earsF)), ((mmR 28), .inl (cJ, 14, .inr (.inl mm_earNameL))), ((mmR 29), .inl (cJ, 12, .inr (.inl mm_placeNameL_20))), ((mmR 14), .inl (cI, 2, .inl mm_milesToldF)), ((mmR 22), .inl (cI, 12, .inl mm_placeAtF_20)), ((mmR 23), .inl (cI, 12, .inl mm_talkToldF_20))] H := hP
      have hD : va_D A [(a_p0, .inr (12, oX12 r_4_1 r_4_2 mmR)), ((mmR 21), .inl (cI, 2, .inl mm_placesF_20)), ((mmR 0), .inl (cI, 1800, .inl mm_tapeF)), ((mmR 18), .inl (cI, 2, .inl mm_earsF)), ((mmR 28), .inl (cJ, 14, .inr (.inl mm_earNameL))), ((mmR 29), .inl (cJ, 12, .inr (.inl mm_placeNameL_20))), ((mmR 14), .inl (cI, 2, .inl mm_milesToldF)), ((mmR 22), .inl (cI, 12, .inl mm_placeAtF_20)), ((mmR 23), .inl (cI, 12, .inl mm_talkToldF_20))] := hD
      refine W.eq (g2 := F0 m 54 ls [.long r_4_0, .int ((6 * (r_1_1 31)) + v_3), .ref ((mmR 29))]) rfl ?_
      refine xq_last hx hb hK hP hD hS 5 2 rfl rfl hf dX12_placing_54 (fun g_6 H locs hf hP hD hS => ?_)
      have hP : va_P (dC, dI) vwCl [(a_p0, .inr (12, oX12 r_4_1 r_4_2 mmR)), ((mmR 21), .inl (cI, 2, .inl mm_placesF_20)), ((mmR 0), .inl (cI, 1800, .inl mm_tapeF)), ((mmR 18), .inl (cI, 2, .inl mm_earsF)), ((mmR 28), .inl (cJ, 14, .inr (.inl mm_earNameL))), ((mmR 29), .inl (cJ, 12, .inr (.inl g_6))), ((mmR 14), .inl (cI, 2, .inl mm_milesToldF)), ((mmR 22), .inl (cI, 12, .inl mm_placeAtF_20)), ((mmR 23), .inl (cI, 12, .inl mm_talkToldF_20))] H := hP
      have hD : va_D A [(a_p0, .inr (12, oX12 r_4_1 r_4_2 mmR)), ((mmR 21), .inl (cI, 2, .inl mm_placesF_20)), ((mmR 0), .inl (cI, 1800, .inl mm_tapeF)), ((mmR 18), .inl (cI, 2, .inl mm_earsF)), ((mmR 28), .inl (cJ, 14, .inr (.inl mm_earNameL))), ((mmR 29), .inl (cJ, 12, .inr (.inl g_6))), ((mmR 14), .inl (cI, 2, .inl mm_milesToldF)), ((mmR 22), .inl (cI, 12, .inl mm_placeAtF_20)), ((mmR 23), .inl (cI, 12, .inl mm_talkToldF_20))] := hD
      refine lv_aload_n hx hb dX12_placing_55 rfl (lv_at hl 1 rfl) ?_
      refine lv_ldc2 (v := 24948) hx hb hown hw4 dX12_placing_56 ?_
      obtain ⟨⟨r_7_0, r_7_1⟩, h_8, hf⟩ := xq_bd_some hf
      refine xq_callV (As := [.long 24948]) (rest := []) (ci := 12) (q0 := 0) ⟨hx, hb, hml, hown, hts⟩ (kX12_must_ l dC dI cI cB cJ cZ cM z ad N a_p0 r_4_1 r_4_2 mmR mm_tapeF 24948 h_8) (cwV 1 hts gX12_placing_X12_must_ rfl rfl rfl (by decide +kernel) ⟨Nat.le_of_ble_eq_true rfl, Nat.le_of_ble_eq_true rfl⟩) hN hK hP hD hS hA [0, 2] (by decide) rfl rfl rfl rfl rfl rfl hl.1 rfl (Nat.le_of_ble_eq_true rfl) dX12_placing_59 ⟨Nat.zero_le _, Nat.zero_le _⟩ (fun H locs hP hD hS => ?_)
      have hP : va_P (dC, dI) vwCl [(a_p0, .inr (12, oX12 r_7_0 r_7_1 mmR)), ((mmR 21), .inl (cI, 2, .inl mm_placesF_20)), ((mmR 0), .inl (cI, 1800, .inl mm_tapeF)), ((mmR 18), .inl (cI, 2, .inl mm_earsF)), ((mmR 28), .inl (cJ, 14, .inr (.inl mm_earNameL))), ((mmR 29), .inl (cJ, 12, .inr (.inl g_6))), ((mmR 14), .inl (cI, 2, .inl mm_milesToldF)), ((mmR 22), .inl (cI, 12, .inl mm_placeAtF_20)), ((mmR 23), .inl (cI, 12, .inl mm_talkToldF_20))] H := hP
      have hD : va_D A [(a_p0, .inr (12, oX12 r_7_0 r_7_1 mmR)), ((mmR 21), .inl (cI, 2, .inl mm_placesF_20)), ((mmR 0), .inl (cI, 1800, .inl mm_tapeF)), ((mmR 18), .inl (cI, 2, .inl mm_earsF)), ((mmR 28), .inl (cJ, 14, .inr (.inl mm_earNameL))), ((mmR 29), .inl (cJ, 12, .inr (.inl g_6))), ((mmR 14), .inl (cI, 2, .inl mm_milesToldF)), ((mmR 22), .inl (cI, 12, .inl mm_placeAtF_20)), ((mmR 23), .inl (cI, 12, .inl mm_talkToldF_20))] := hD
      refine W.eq (g2 := F0 m 62 ls []) rfl ?_
      refine lv_aload_n hx hb dX12_placing_62 rfl (lv_at hl 1 rfl) ?_
      obtain ⟨r_9, h_10, hf⟩ := xq_bd_some hf
      refine xq_callV (As := []) (rest := []) (ci := 12) (q0 := 0) ⟨hx, hb, hml, hown, hts⟩ (kX12_lex l dC dI cI cB cJ cZ cM z ad N a_p0 r_7_0 r_7_1 mmR h_10) (cwV 0 hts gX12_placing_X12_lex rfl rfl rfl (by decide +kernel) ⟨Nat.le_of_ble_eq_true rfl, Nat.le_of_ble_eq_true rfl⟩) hN hK hP hD hS hA [0] (by decide) rfl rfl rfl rfl rfl rfl hl.1 rfl (Nat.le_of_ble_eq_true rfl) dX12_placing_63 ⟨Nat.zero_le _, Nat.zero_le _⟩ (fun H locs hP hD hS => ?_)
      have hP : va_P (dC, dI) vwCl [(a_p0, .inr (12, oX12 r_9 r_7_1 mmR)), ((mmR 21), .inl (cI, 2, .inl mm_placesF_20)), ((mmR 0), .inl (cI, 1800, .inl mm_tapeF)), ((mmR 18), .inl (cI, 2, .inl mm_earsF)), ((mmR 28), .inl (cJ, 14, .inr (.inl mm_earNameL))), ((mmR 29), .inl (cJ, 12, .inr (.inl g_6))), ((mmR 14), .inl (cI, 2, .inl mm_milesToldF)), ((mmR 22), .inl (cI, 12, .inl mm_placeAtF_20)), ((mmR 23), .inl (cI, 12, .inl mm_talkToldF_20))] H := hP
      have hD : va_D A [(a_p0, .inr (12, oX12 r_9 r_7_1 mmR)), ((mmR 21), .inl (cI, 2, .inl mm_placesF_20)), ((mmR 0), .inl (cI, 1800, .inl mm_tapeF)), ((mmR 18), .inl (cI, 2, .inl mm_earsF)), ((mmR 28), .inl (cJ, 14, .inr (.inl mm_earNameL))), ((mmR 29), .inl (cJ, 12, .inr (.inl g_6))), ((mmR 14), .inl (cI, 2, .inl mm_milesToldF)), ((mmR 22), .inl (cI, 12, .inl mm_placeAtF_20)), ((mmR 23), .inl (cI, 12, .inl mm_talkToldF_20))] := hD
      refine W.eq (g2 := F0 m 66 ls []) rfl ?_
      refine lv_aload_n hx hb dX12_placing_66 rfl (lv_at hl 1 rfl) ?_
      refine va_get (D := (dC, dI)) (ci := 12) (v := .int (r_9 4)) (C := RX12) (T := TX12) (N := 70) hx hb hts hinX12 hown hK hP 0 rfl rfl 4 (by decide) hw5 (fun _ h9 => h9) rfl dX12_placing_67 ?_
      refine lv_istore_n (lv' := [(2, .int (r_9 4)), (1, .int ((6 * (r_1_1 31)) + v_3)), (0, .ref a_p0)]) hx hb dX12_placing_70 rfl hl (by decide) rfl (fun ls hl => ?_)
      refine lv_aload_n hx hb dX12_placing_71 rfl (lv_at hl 2 rfl) ?_
      refine lv_iconst (v := 1) hx hb dX12_placing_72 (by decide) ?_
      refine lv_aload_n hx hb dX12_placing_73 rfl (lv_at hl 2 rfl) ?_
      refine va_get (D := (dC, dI)) (ci := 12) (v := .ref ((mmR 14))) (C := RX12) (T := TX12) (N := 70) hx hb hts hinX12 hown hK hP 0 rfl rfl 14 (by decide) hw6 (fun _ h9 => h9) rfl dX12_placing_74 ?_
      refine lv_aload_n hx hb dX12_placing_77 rfl (lv_at hl 2 rfl) ?_
      refine va_get (D := (dC, dI)) (ci := 12) (v := .int (r_9 31)) (C := RX12) (T := TX12) (N := 70) hx hb hts hinX12 hown hK hP 0 rfl rfl 31 (by decide) hw2 (fun _ h9 => h9) rfl dX12_placing_78 ?_
      refine xq_iald hx hb hK hP 6 0 rfl rfl hf dX12_placing_81 (fun v_11 hf => ?_)
      refine lv_iconst (v := 1) hx hb dX12_placing_82 (by decide) ?_
      refine lv_isub hx hb dX12_placing_83 ?_
      obtain ⟨⟨r_12_0, r_12_1, r_12_2⟩, h_13, hf⟩ := xq_bd_some hf
      refine xq_callV (As := [.int 1, .int (v_11 - 1)]) (rest := []) (ci := 12) (q0 := 0) ⟨hx, hb, hml, hown, hts⟩ (kX12_number l dC dI cI cB cJ cZ cM z ad N a_p0 r_9 r_7_1 mmR mm_tapeF 1 (v_11 - 1) h_13) (cwV 2 hts gX12_placing_X12_number rfl rfl rfl (by decide +kernel) ⟨Nat.le_of_ble_eq_true rfl, Nat.le_of_ble_eq_true rfl⟩) hN hK hP hD hS hA [0, 2] (by decide) rfl rfl rfl rfl rfl rfl hl.1 rfl (Nat.le_of_ble_eq_true rfl) dX12_placing_84 ⟨Nat.zero_le _, Nat.zero_le _⟩ (fun H locs hP hD hS => ?_)
      have hP : va_P (dC, dI) vwCl [(a_p0, .inr (12, oX12 r_12_1 r_12_2 mmR)), ((mmR 21), .inl (cI, 2, .inl mm_placesF_20)), ((mmR 0), .inl (cI, 1800, .inl mm_tapeF)), ((mmR 18), .inl (cI, 2, .inl mm_earsF)), ((mmR 28), .inl (cJ, 14, .inr (.inl mm_earNameL))), ((mmR 29), .inl (cJ, 12, .inr (.inl g_6))), ((mmR 14), .inl (cI, 2, .inl mm_milesToldF)), ((mmR 22), .inl (cI, 12, .inl mm_placeAtF_20)), ((mmR 23), .inl (cI, 12, .inl mm_talkToldF_20))] H := hP
      have hD : va_D A [(a_p0, .inr (12, oX12 r_12_1 r_12_2 mmR)), ((mmR 21), .inl (cI, 2, .inl mm_placesF_20)), ((mmR 0), .inl (cI, 1800, .inl mm_tapeF)), ((mmR 18), .inl (cI, 2, .inl mm_earsF)), ((mmR 28), .inl (cJ, 14, .inr (.inl mm_earNameL))), ((mmR 29), .inl (cJ, 12, .inr (.inl g_6))), ((mmR 14), .inl (cI, 2, .inl mm_milesToldF)), ((mmR 22), .inl (cI, 12, .inl mm_placeAtF_20)), ((mmR 23), .inl (cI, 12, .inl mm_talkToldF_20))] := hD
      refine W.eq (g2 := F0 m 87 ls [.int r_12_0]) rfl ?_
      refine lv_istore_n (lv' := [(3, .int r_12_0), (2, .int (r_9 4)), (1, .int ((6 * (r_1_1 31)) + v_3)), (0, .ref a_p0)]) hx hb dX12_placing_87 rfl hl (by decide) rfl (fun ls hl => ?_)
      refine lv_aload_n hx hb dX12_placing_88 rfl (lv_at hl 3 rfl) ?_
      refine va_get (D := (dC, dI)) (ci := 12) (v := .int (r_12_1 8)) (C := RX12) (T := TX12) (N := 70) hx hb hts hinX12 hown hK hP 0 rfl rfl 8 (by decide) hw7 (fun _ h9 => h9) rfl dX12_placing_89 ?_
      refine lv_if_ne (tgt := 109) hx hb dX12_placing_92 (by decide) (fun c_ => ?_) (fun c_ => ?_)
      · have hf := xq_neg hf c_
        exact b109 r_12_1 r_12_2 mm_placesF_20 g_6 mm_placeAtF_20 mm_talkToldF_20 ((6 * (r_1_1 31)) + v_3) r_12_0 _ _ _ hf hP hD hS (lv_sub hl [3, 2, 0] rfl)
      · have hf := xq_pos hf c_
        refine lv_aload_n hx hb dX12_placing_95 rfl (lv_at hl 3 rfl) ?_
        refine lv_iload_n hx hb dX12_placing_96 rfl (lv_at hl 0 rfl) ?_
        obtain ⟨r_14, h_15, hf⟩ := xq_bd_some hf
        refine xq_callV (As := [.int r_12_0]) (rest := []) (ci := 12) (q0 := 0) ⟨hx, hb, hml, hown, hts⟩ (kX12_isPlaceAt l dC dI cI cB cJ cZ cM z ad N a_p0 r_12_1 r_12_2 mmR mm_placesF_20 mm_placeAtF_20 r_12_0 h_15) (cwV 1 hts gX12_placing_X12_isPlaceAt rfl rfl rfl (by decide +kernel) ⟨Nat.le_of_ble_eq_true rfl, Nat.le_of_ble_eq_true rfl⟩) hN hK hP hD hS hA [0, 1, 7] (by decide) rfl rfl rfl rfl rfl rfl hl.1 rfl (Nat.le_of_ble_eq_true rfl) dX12_placing_97 ⟨Nat.zero_le _, Nat.zero_le _⟩ (fun H locs hP hD hS => ?_)
        have hP : va_P (dC, dI) vwCl [(a_p0, .inr (12, oX12 r_12_1 r_12_2 mmR)), ((mmR 21), .inl (cI, 2, .inl mm_placesF_20)), ((mmR 0), .inl (cI, 1800, .inl mm_tapeF)), ((mmR 18), .inl (cI, 2, .inl mm_earsF)), ((mmR 28), .inl (cJ, 14, .inr (.inl mm_earNameL))), ((mmR 29), .inl (cJ, 12, .inr (.inl g_6))), ((mmR 14), .inl (cI, 2, .inl mm_milesToldF)), ((mmR 22), .inl (cI, 12, .inl mm_placeAtF_20)), ((mmR 23), .inl (cI, 12, .inl mm_talkToldF_20))] H := hP
        have hD : va_D A [(a_p0, .inr (12, oX12 r_12_1 r_12_2 mmR)), ((mmR 21), .inl (cI, 2, .inl mm_placesF_20)), ((mmR 0), .inl (cI, 1800, .inl mm_tapeF)), ((mmR 18), .inl (cI, 2, .inl mm_earsF)), ((mmR 28), .inl (cJ, 14, .inr (.inl mm_earNameL))), ((mmR 29), .inl (cJ, 12, .inr (.inl g_6))), ((mmR 14), .inl (cI, 2, .inl mm_milesToldF)), ((mmR 22), .inl (cI, 12, .inl mm_placeAtF_20)), ((mmR 23), .inl (cI, 12, .inl mm_talkToldF_20))] := hD
        refine W.eq (g2 := F0 m 100 ls [.int r_14]) rfl ?_
        refine lv_if_eq (tgt := 109) hx hb dX12_placing_100 (by decide) (fun c_ => ?_) (fun c_ => ?_)
        · have hf := xq_pos hf c_
          exact b109 r_12_1 r_12_2 mm_placesF_20 g_6 mm_placeAtF_20 mm_talkToldF_20 ((6 * (r_1_1 31)) + v_3) r_12_0 _ _ _ hf hP hD hS (lv_sub hl [3, 2, 0] rfl)
        · have hf := xq_neg hf c_
          refine lv_aload_n hx hb dX12_placing_103 rfl (lv_at hl 3 rfl) ?_
          refine lv_iconst (v := 4) hx hb dX12_placing_104 (by decide) ?_
          refine lv_iload_n hx hb dX12_placing_105 rfl (lv_at hl 1 rfl) ?_
          obtain ⟨r_16, h_17, hf⟩ := xq_bd_some hf
          refine xq_callV (As := [.int 4, .int (r_9 4)]) (rest := []) (ci := 12) (q0 := 0) ⟨hx, hb, hml, hown, hts⟩ (kX12_blame l dC dI cI cB cJ cZ cM z ad N a_p0 r_12_1 r_12_2 mmR 4 (r_9 4) h_17) (cwV 2 hts gX12_placing_X12_blame rfl rfl rfl (by decide +kernel) ⟨Nat.le_of_ble_eq_true rfl, Nat.le_of_ble_eq_true rfl⟩) hN hK hP hD hS hA [0] (by decide) rfl rfl rfl rfl rfl rfl hl.1 rfl (Nat.le_of_ble_eq_true rfl) dX12_placing_106 ⟨Nat.zero_le _, Nat.zero_le _⟩ (fun H locs hP hD hS => ?_)
          have hP : va_P (dC, dI) vwCl [(a_p0, .inr (12, oX12 r_16 r_12_2 mmR)), ((mmR 21), .inl (cI, 2, .inl mm_placesF_20)), ((mmR 0), .inl (cI, 1800, .inl mm_tapeF)), ((mmR 18), .inl (cI, 2, .inl mm_earsF)), ((mmR 28), .inl (cJ, 14, .inr (.inl mm_earNameL))), ((mmR 29), .inl (cJ, 12, .inr (.inl g_6))), ((mmR 14), .inl (cI, 2, .inl mm_milesToldF)), ((mmR 22), .inl (cI, 12, .inl mm_placeAtF_20)), ((mmR 23), .inl (cI, 12, .inl mm_talkToldF_20))] H := hP
          have hD : va_D A [(a_p0, .inr (12, oX12 r_16 r_12_2 mmR)), ((mmR 21), .inl (cI, 2, .inl mm_placesF_20)), ((mmR 0), .inl (cI, 1800, .inl mm_tapeF)), ((mmR 18), .inl (cI, 2, .inl mm_earsF)), ((mmR 28), .inl (cJ, 14, .inr (.inl mm_earNameL))), ((mmR 29), .inl (cJ, 12, .inr (.inl g_6))), ((mmR 14), .inl (cI, 2, .inl mm_milesToldF)), ((mmR 22), .inl (cI, 12, .inl mm_placeAtF_20)), ((mmR 23), .inl (cI, 12, .inl mm_talkToldF_20))] := hD
          refine W.eq (g2 := F0 m 109 ls []) rfl ?_
          exact b109 r_16 r_12_2 mm_placesF_20 g_6 mm_placeAtF_20 mm_talkToldF_20 ((6 * (r_1_1 31)) + v_3) r_12_0 _ _ _ hf hP hD hS (lv_sub hl [3, 2, 0] rfl)
    · have hf := xq_pos hf c_
      have e9 := Option.some.inj hf
      have e9_0 : r_1_1 = r0 := congrArg (fun t => t.1) e9
      have e9_1 : r_1_2 = r1 := congrArg (fun t => t.2.1) e9
      have e9_2 : mm_placesF_20 = r2 := congrArg (fun t => t.2.2.1) e9
      have e9_3 : mm_placeNameL_20 = r3 := congrArg (fun t => t.2.2.2.1) e9
      have e9_4 : mm_placeAtF_20 = r4 := congrArg (fun t => t.2.2.2.2.1) e9
      have e9_5 : mm_talkToldF_20 = r5 := congrArg (fun t => t.2.2.2.2.2) e9
      clear e9 hf
      try clear b109
      try clear b20
      subst e9_0
      subst e9_1
      subst e9_2
      subst e9_3
      subst e9_4
      subst e9_5
      exact xq_vret hx hb hr hlocks hK hP hD hS dX12_placing_26
  unfold fX12_placing at hf
  refine lv_aload_n hx hb dX12_placing_0 rfl (lv_at hl 0 rfl) ?_
  refine lv_aload_n hx hb dX12_placing_1 rfl (lv_at hl 0 rfl) ?_
  refine va_get (D := (dC, dI)) (ci := 12) (v := .ref ((mmR 21))) (C := RX12) (T := TX12) (N := 70) hx hb hts hinX12 hown hK hP 0 rfl rfl 21 (by decide) hw0 (fun _ h9 => h9) rfl dX12_placing_2 ?_
  refine lv_aload_n hx hb dX12_placing_5 rfl (lv_at hl 0 rfl) ?_
  refine va_get (D := (dC, dI)) (ci := 12) (v := .int (mmI 31)) (C := RX12) (T := TX12) (N := 70) hx hb hts hinX12 hown hK hP 0 rfl rfl 31 (by decide) hw2 (fun _ h9 => h9) rfl dX12_placing_6 ?_
  refine xq_iald hx hb hK hP 1 0 rfl rfl hf dX12_placing_9 (fun v_1 hf => ?_)
  refine lv_bipush (v := 6) hx hb dX12_placing_10 (by decide) ?_
  refine lv_icmp_ne (tgt := 19) hx hb dX12_placing_12 (by decide) (fun c_ => ?_) (fun c_ => ?_)
  · have hf := xq_neg hf c_
    refine lv_iconst (v := 0) hx hb dX12_placing_19 (by decide) ?_
    exact b20 mmI mmJ mm_placesF mm_placeNameL mm_placeAtF mm_talkToldF 0 _ _ _ hf hP hD hS (lv_sub hl [0] rfl)
  · have hf := xq_pos hf c_
    refine lv_iconst (v := 1) hx hb dX12_placing_15 (by decide) ?_
    refine lv_goto (tgt := 20) hx hb dX12_placing_16 (by decide) ?_
    exact b20 mmI mmJ mm_placesF mm_placeNameL mm_placeAtF mm_talkToldF 1 _ _ _ hf hP hD hS (lv_sub hl [0] rfl)
set_option maxRecDepth 20000 in
theorem ggX12_reading_X12_isCounted : GoodIn wsX12_reading wsX12_isCounted := goodIn_r _ [10, 11, 12, 13, 14, 15, 9, 16, 17, 18, 19, 20, 21, 22, 23, 24, 25, 26, 27, 28, 29, 30, 31, 32, 33, 34, 112, 113, 114, 115, 116, 117, 118, 119, 120, 121, 122, 123, 124, 125, 126, 127, 128, 129, 130, 131, 132, 133, 134, 135, 136, 137, 138, 139, 140, 141, 142, 143, 144, 145, 146, 147, 148, 149, 150, 151, 152, 153, 154, 155, 156, 157, 158, 159, 160, 161, 162, 163, 164, 165, 166, 167, 168, 169, 170, 171, 172, 173, 174, 175, 176, 177, 178, 179, 180, 181] rfl (by decide +kernel)
set_option maxRecDepth 20000 in
theorem gX12_reading_X12_isCounted : GoodIn wsX12_reading (wsV RX12 342 RX12 yX12_isCounted wsX12_isCounted) := goodIn_app (goodIn_of _ (by decide +kernel)) ggX12_reading_X12_isCounted
set_option maxRecDepth 20000 in
theorem ggX12_reading_X12_reads : GoodIn wsX12_reading wsX12_reads := goodIn_r _ [38, 11, 39, 40, 41, 42, 43, 44, 45, 9, 46, 47, 48, 49, 50, 51, 52, 53, 54, 55, 12, 56, 57, 58, 59, 60, 25, 61, 62, 63, 64, 65, 66, 67, 68, 3, 27, 69, 70, 71, 72, 26, 13, 14, 15, 16, 17, 73, 74, 75, 76, 77, 78, 79, 28, 80, 81, 82, 83, 84, 18, 19, 20, 21, 22, 23, 24, 29, 30, 31, 32, 33, 34, 85, 86, 87, 88, 89, 90, 91, 92, 93, 94, 95, 96, 97, 1, 4, 98, 99, 100, 101, 102, 103, 104, 105, 106, 107, 108, 109, 110, 111, 112, 113, 114, 115, 116, 117, 118, 119, 120, 121, 122, 123, 124, 125, 126, 127, 128, 129, 130, 131, 132, 133, 134, 135, 136, 137, 138, 139, 140, 141, 142, 143, 144, 145, 146, 147, 148, 149, 150, 151, 152, 153, 154, 155, 156, 157, 158, 159, 160, 161, 162, 163, 164, 165, 166, 167, 168, 169, 170, 171, 172, 173, 174, 175, 176, 177, 178, 179, 180, 181] rfl (by decide +kernel)
set_option maxRecDepth 20000 in
theorem gX12_reading_X12_reads : GoodIn wsX12_reading (wsV RX12 361 RX12 yX12_reads wsX12_reads) := goodIn_app (goodIn_of _ (by decide +kernel)) ggX12_reading_X12_reads
def dsX12_reading_0 : List (Nat × Instr × Nat) := [(0, (.iconst 3, 1)), (1, (.aload_n 0, 1)), (2, (.getfield 106, 3)), (5, (.imul, 1)), (6, (.iload_n 1, 1)), (7, (.iadd, 1)), (8, (.istore_n 2, 1)), (9, (.aload_n 0, 1)), (10, (.aload_n 0, 1)), (11, (.getfield 84, 3)), (14, (.iload_n 2, 1)), (15, (.iaload, 1)), (16, (.iconst (-1), 1)), (17, (.if_icmp .eq 7, 3)), (20, (.iconst 1, 1)), (21, (.goto 4, 3)), (24, (.iconst 0, 1)), (25, (.invokevirtual 342, 3)), (28, (.ifCond .ne 4, 3)), (31, (.return_, 1)), (32, (.aload_n 0, 1)), (33, (.iload_n 1, 1)), (34, (.putfield 109, 3)), (37, (.aload_n 0, 1)), (38, (.getfield 84, 3)), (41, (.iload_n 2, 1)), (42, (.aload_n 0, 1)), (43, (.getfield 103, 3)), (46, (.iastore, 1)), (47, (.aload_n 0, 1)), (48, (.iload_n 1, 1)), (49, (.iconst 1, 1)), (50, (.if_icmp .ne 7, 3)), (53, (.iconst 1, 1)), (54, (.goto 4, 3)), (57, (.iconst 0, 1)), (58, (.invokevirtual 361, 3)), (61, (.aload_n 0, 1)), (62, (.getfield 87, 3)), (65, (.iload_n 2, 1)), (66, (.aload_n 0, 1)), (67, (.getfield 103, 3)), (70, (.iastore, 1)), (71, (.return_, 1))]
theorem dsX12_reading_0_ok : (dsX12_reading_0.all fun q => decide (decode cX12_reading q.1 = .ok q.2)) = true := by decide +kernel
theorem dX12_reading_0 : decode cX12_reading 0 = .ok (.iconst 3, 1) := of_decide_eq_true (List.all_eq_true.mp dsX12_reading_0_ok (0, (.iconst 3, 1)) (List.mem_of_getElem? (i := 0) rfl))
theorem dX12_reading_1 : decode cX12_reading 1 = .ok (.aload_n 0, 1) := of_decide_eq_true (List.all_eq_true.mp dsX12_reading_0_ok (1, (.aload_n 0, 1)) (List.mem_of_getElem? (i := 1) rfl))
theorem dX12_reading_2 : decode cX12_reading 2 = .ok (.getfield 106, 3) := of_decide_eq_true (List.all_eq_true.mp dsX12_reading_0_ok (2, (.getfield 106, 3)) (List.mem_of_getElem? (i := 2) rfl))
theorem dX12_reading_5 : decode cX12_reading 5 = .ok (.imul, 1) := of_decide_eq_true (List.all_eq_true.mp dsX12_reading_0_ok (5, (.imul, 1)) (List.mem_of_getElem? (i := 3) rfl))
theorem dX12_reading_6 : decode cX12_reading 6 = .ok (.iload_n 1, 1) := of_decide_eq_true (List.all_eq_true.mp dsX12_reading_0_ok (6, (.iload_n 1, 1)) (List.mem_of_getElem? (i := 4) rfl))
theorem dX12_reading_7 : decode cX12_reading 7 = .ok (.iadd, 1) := of_decide_eq_true (List.all_eq_true.mp dsX12_reading_0_ok (7, (.iadd, 1)) (List.mem_of_getElem? (i := 5) rfl))
theorem dX12_reading_8 : decode cX12_reading 8 = .ok (.istore_n 2, 1) := of_decide_eq_true (List.all_eq_true.mp dsX12_reading_0_ok (8, (.istore_n 2, 1)) (List.mem_of_getElem? (i := 6) rfl))
theorem dX12_reading_9 : decode cX12_reading 9 = .ok (.aload_n 0, 1) := of_decide_eq_true (List.all_eq_true.mp dsX12_reading_0_ok (9, (.aload_n 0, 1)) (List.mem_of_getElem? (i := 7) rfl))
theorem dX12_reading_10 : decode cX12_reading 10 = .ok (.aload_n 0, 1) := of_decide_eq_true (List.all_eq_true.mp dsX12_reading_0_ok (10, (.aload_n 0, 1)) (List.mem_of_getElem? (i := 8) rfl))
theorem dX12_reading_11 : decode cX12_reading 11 = .ok (.getfield 84, 3) := of_decide_eq_true (List.all_eq_true.mp dsX12_reading_0_ok (11, (.getfield 84, 3)) (List.mem_of_getElem? (i := 9) rfl))
theorem dX12_reading_14 : decode cX12_reading 14 = .ok (.iload_n 2, 1) := of_decide_eq_true (List.all_eq_true.mp dsX12_reading_0_ok (14, (.iload_n 2, 1)) (List.mem_of_getElem? (i := 10) rfl))
theorem dX12_reading_15 : decode cX12_reading 15 = .ok (.iaload, 1) := of_decide_eq_true (List.all_eq_true.mp dsX12_reading_0_ok (15, (.iaload, 1)) (List.mem_of_getElem? (i := 11) rfl))
theorem dX12_reading_16 : decode cX12_reading 16 = .ok (.iconst (-1), 1) := of_decide_eq_true (List.all_eq_true.mp dsX12_reading_0_ok (16, (.iconst (-1), 1)) (List.mem_of_getElem? (i := 12) rfl))
theorem dX12_reading_17 : decode cX12_reading 17 = .ok (.if_icmp .eq 7, 3) := of_decide_eq_true (List.all_eq_true.mp dsX12_reading_0_ok (17, (.if_icmp .eq 7, 3)) (List.mem_of_getElem? (i := 13) rfl))
theorem dX12_reading_20 : decode cX12_reading 20 = .ok (.iconst 1, 1) := of_decide_eq_true (List.all_eq_true.mp dsX12_reading_0_ok (20, (.iconst 1, 1)) (List.mem_of_getElem? (i := 14) rfl))
theorem dX12_reading_21 : decode cX12_reading 21 = .ok (.goto 4, 3) := of_decide_eq_true (List.all_eq_true.mp dsX12_reading_0_ok (21, (.goto 4, 3)) (List.mem_of_getElem? (i := 15) rfl))
theorem dX12_reading_24 : decode cX12_reading 24 = .ok (.iconst 0, 1) := of_decide_eq_true (List.all_eq_true.mp dsX12_reading_0_ok (24, (.iconst 0, 1)) (List.mem_of_getElem? (i := 16) rfl))
theorem dX12_reading_25 : decode cX12_reading 25 = .ok (.invokevirtual 342, 3) := of_decide_eq_true (List.all_eq_true.mp dsX12_reading_0_ok (25, (.invokevirtual 342, 3)) (List.mem_of_getElem? (i := 17) rfl))
theorem dX12_reading_28 : decode cX12_reading 28 = .ok (.ifCond .ne 4, 3) := of_decide_eq_true (List.all_eq_true.mp dsX12_reading_0_ok (28, (.ifCond .ne 4, 3)) (List.mem_of_getElem? (i := 18) rfl))
theorem dX12_reading_31 : decode cX12_reading 31 = .ok (.return_, 1) := of_decide_eq_true (List.all_eq_true.mp dsX12_reading_0_ok (31, (.return_, 1)) (List.mem_of_getElem? (i := 19) rfl))
theorem dX12_reading_32 : decode cX12_reading 32 = .ok (.aload_n 0, 1) := of_decide_eq_true (List.all_eq_true.mp dsX12_reading_0_ok (32, (.aload_n 0, 1)) (List.mem_of_getElem? (i := 20) rfl))
theorem dX12_reading_33 : decode cX12_reading 33 = .ok (.iload_n 1, 1) := of_decide_eq_true (List.all_eq_true.mp dsX12_reading_0_ok (33, (.iload_n 1, 1)) (List.mem_of_getElem? (i := 21) rfl))
theorem dX12_reading_34 : decode cX12_reading 34 = .ok (.putfield 109, 3) := of_decide_eq_true (List.all_eq_true.mp dsX12_reading_0_ok (34, (.putfield 109, 3)) (List.mem_of_getElem? (i := 22) rfl))
theorem dX12_reading_37 : decode cX12_reading 37 = .ok (.aload_n 0, 1) := of_decide_eq_true (List.all_eq_true.mp dsX12_reading_0_ok (37, (.aload_n 0, 1)) (List.mem_of_getElem? (i := 23) rfl))
theorem dX12_reading_38 : decode cX12_reading 38 = .ok (.getfield 84, 3) := of_decide_eq_true (List.all_eq_true.mp dsX12_reading_0_ok (38, (.getfield 84, 3)) (List.mem_of_getElem? (i := 24) rfl))
theorem dX12_reading_41 : decode cX12_reading 41 = .ok (.iload_n 2, 1) := of_decide_eq_true (List.all_eq_true.mp dsX12_reading_0_ok (41, (.iload_n 2, 1)) (List.mem_of_getElem? (i := 25) rfl))
theorem dX12_reading_42 : decode cX12_reading 42 = .ok (.aload_n 0, 1) := of_decide_eq_true (List.all_eq_true.mp dsX12_reading_0_ok (42, (.aload_n 0, 1)) (List.mem_of_getElem? (i := 26) rfl))
theorem dX12_reading_43 : decode cX12_reading 43 = .ok (.getfield 103, 3) := of_decide_eq_true (List.all_eq_true.mp dsX12_reading_0_ok (43, (.getfield 103, 3)) (List.mem_of_getElem? (i := 27) rfl))
theorem dX12_reading_46 : decode cX12_reading 46 = .ok (.iastore, 1) := of_decide_eq_true (List.all_eq_true.mp dsX12_reading_0_ok (46, (.iastore, 1)) (List.mem_of_getElem? (i := 28) rfl))
theorem dX12_reading_47 : decode cX12_reading 47 = .ok (.aload_n 0, 1) := of_decide_eq_true (List.all_eq_true.mp dsX12_reading_0_ok (47, (.aload_n 0, 1)) (List.mem_of_getElem? (i := 29) rfl))
theorem dX12_reading_48 : decode cX12_reading 48 = .ok (.iload_n 1, 1) := of_decide_eq_true (List.all_eq_true.mp dsX12_reading_0_ok (48, (.iload_n 1, 1)) (List.mem_of_getElem? (i := 30) rfl))
theorem dX12_reading_49 : decode cX12_reading 49 = .ok (.iconst 1, 1) := of_decide_eq_true (List.all_eq_true.mp dsX12_reading_0_ok (49, (.iconst 1, 1)) (List.mem_of_getElem? (i := 31) rfl))
theorem dX12_reading_50 : decode cX12_reading 50 = .ok (.if_icmp .ne 7, 3) := of_decide_eq_true (List.all_eq_true.mp dsX12_reading_0_ok (50, (.if_icmp .ne 7, 3)) (List.mem_of_getElem? (i := 32) rfl))
theorem dX12_reading_53 : decode cX12_reading 53 = .ok (.iconst 1, 1) := of_decide_eq_true (List.all_eq_true.mp dsX12_reading_0_ok (53, (.iconst 1, 1)) (List.mem_of_getElem? (i := 33) rfl))
theorem dX12_reading_54 : decode cX12_reading 54 = .ok (.goto 4, 3) := of_decide_eq_true (List.all_eq_true.mp dsX12_reading_0_ok (54, (.goto 4, 3)) (List.mem_of_getElem? (i := 34) rfl))
theorem dX12_reading_57 : decode cX12_reading 57 = .ok (.iconst 0, 1) := of_decide_eq_true (List.all_eq_true.mp dsX12_reading_0_ok (57, (.iconst 0, 1)) (List.mem_of_getElem? (i := 35) rfl))
theorem dX12_reading_58 : decode cX12_reading 58 = .ok (.invokevirtual 361, 3) := of_decide_eq_true (List.all_eq_true.mp dsX12_reading_0_ok (58, (.invokevirtual 361, 3)) (List.mem_of_getElem? (i := 36) rfl))
theorem dX12_reading_61 : decode cX12_reading 61 = .ok (.aload_n 0, 1) := of_decide_eq_true (List.all_eq_true.mp dsX12_reading_0_ok (61, (.aload_n 0, 1)) (List.mem_of_getElem? (i := 37) rfl))
theorem dX12_reading_62 : decode cX12_reading 62 = .ok (.getfield 87, 3) := of_decide_eq_true (List.all_eq_true.mp dsX12_reading_0_ok (62, (.getfield 87, 3)) (List.mem_of_getElem? (i := 38) rfl))
theorem dX12_reading_65 : decode cX12_reading 65 = .ok (.iload_n 2, 1) := of_decide_eq_true (List.all_eq_true.mp dsX12_reading_0_ok (65, (.iload_n 2, 1)) (List.mem_of_getElem? (i := 39) rfl))
theorem dX12_reading_66 : decode cX12_reading 66 = .ok (.aload_n 0, 1) := of_decide_eq_true (List.all_eq_true.mp dsX12_reading_0_ok (66, (.aload_n 0, 1)) (List.mem_of_getElem? (i := 40) rfl))
theorem dX12_reading_67 : decode cX12_reading 67 = .ok (.getfield 103, 3) := of_decide_eq_true (List.all_eq_true.mp dsX12_reading_0_ok (67, (.getfield 103, 3)) (List.mem_of_getElem? (i := 41) rfl))
theorem dX12_reading_70 : decode cX12_reading 70 = .ok (.iastore, 1) := of_decide_eq_true (List.all_eq_true.mp dsX12_reading_0_ok (70, (.iastore, 1)) (List.mem_of_getElem? (i := 42) rfl))
theorem dX12_reading_71 : decode cX12_reading 71 = .ok (.return_, 1) := of_decide_eq_true (List.all_eq_true.mp dsX12_reading_0_ok (71, (.return_, 1)) (List.mem_of_getElem? (i := 43) rfl))
def fX12_reading_b58 (N : Nat) (mm_tapeF : Nat → Int32)   : ((Nat → Int32) × (Nat → Int64) × (Nat → Int32) × (Nat → Int32) × (Nat → Int32) × (Nat → Int32) × (Nat → Int32) × (Nat → Int32) × (Nat → Int32) × (Nat → Int32) × (Nat → Int32) × (Nat → Int32) × Int32 × Int32) → Option ((Nat → Int32) × (Nat → Int64) × (Nat → Int32) × (Nat → Int32) × (Nat → Int32) × (Nat → Int32) × (Nat → Int32) × (Nat → Int32) × (Nat → Int32) × (Nat → Int32) × (Nat → Int32) × (Nat → Int32)) :=
  fun (mmI_58, mmJ_58, mm_sumFromF_58, mm_frameF_58, mm_phaseF_58, mm_beginsF_58, mm_baseF_58, mm_opsF_58, mm_codeSortF_58, mm_codeValueF_58, mm_pairF_58, mm_sumBehindF_58, x2_58, y1_58) => (xq_bd (fX12_reads N mmI_58 mmJ_58 mm_frameF_58 mm_phaseF_58 mm_beginsF_58 mm_baseF_58 mm_opsF_58 mm_codeSortF_58 mm_codeValueF_58 mm_tapeF mm_pairF_58 y1_58) fun (r_1_0, r_1_1, r_1_2, r_1_3, r_1_4, r_1_5, r_1_6, r_1_7, r_1_8, r_1_9) => (xq_bd (xq_ast 6 mm_sumBehindF_58 x2_58 (r_1_0 30)) fun g_3 => some ((r_1_0, r_1_1, mm_sumFromF_58, r_1_2, r_1_3, r_1_4, r_1_5, r_1_6, r_1_7, r_1_8, r_1_9, g_3))))
def fX12_reading_b25 (N : Nat) (mm_tapeF : Nat → Int32)   : ((Nat → Int32) × (Nat → Int64) × (Nat → Int32) × (Nat → Int32) × (Nat → Int32) × (Nat → Int32) × (Nat → Int32) × (Nat → Int32) × (Nat → Int32) × (Nat → Int32) × (Nat → Int32) × (Nat → Int32) × Int32 × Int32 × Int32) → Option ((Nat → Int32) × (Nat → Int64) × (Nat → Int32) × (Nat → Int32) × (Nat → Int32) × (Nat → Int32) × (Nat → Int32) × (Nat → Int32) × (Nat → Int32) × (Nat → Int32) × (Nat → Int32) × (Nat → Int32)) :=
  fun (mmI_25, mmJ_25, mm_sumFromF_25, mm_frameF_25, mm_phaseF_25, mm_beginsF_25, mm_baseF_25, mm_opsF_25, mm_codeSortF_25, mm_codeValueF_25, mm_pairF_25, mm_sumBehindF_25, x1_25, x2_25, y1_25) => (xq_bd (fX12_isCounted N mmI_25 mmJ_25 mm_tapeF y1_25) fun (r_4_0, r_4_1, r_4_2) => (if r_4_0 = 0 then some ((r_4_1, r_4_2, mm_sumFromF_25, mm_frameF_25, mm_phaseF_25, mm_beginsF_25, mm_baseF_25, mm_opsF_25, mm_codeSortF_25, mm_codeValueF_25, mm_pairF_25, mm_sumBehindF_25)) else (xq_bd (xq_ast 6 mm_sumFromF_25 x2_25 (r_4_1 30)) fun g_6 => (if x1_25 = 1 then fX12_reading_b58 N mm_tapeF ((va_up r_4_1 32 x1_25), r_4_2, g_6, mm_frameF_25, mm_phaseF_25, mm_beginsF_25, mm_baseF_25, mm_opsF_25, mm_codeSortF_25, mm_codeValueF_25, mm_pairF_25, mm_sumBehindF_25, x2_25, 1) else fX12_reading_b58 N mm_tapeF ((va_up r_4_1 32 x1_25), r_4_2, g_6, mm_frameF_25, mm_phaseF_25, mm_beginsF_25, mm_baseF_25, mm_opsF_25, mm_codeSortF_25, mm_codeValueF_25, mm_pairF_25, mm_sumBehindF_25, x2_25, 0)))))
def fX12_reading (N : Nat) (mmI : Nat → Int32) (mmJ : Nat → Int64) (mm_sumFromF : Nat → Int32) (mm_tapeF : Nat → Int32) (mm_frameF : Nat → Int32) (mm_phaseF : Nat → Int32) (mm_beginsF : Nat → Int32) (mm_baseF : Nat → Int32) (mm_opsF : Nat → Int32) (mm_codeSortF : Nat → Int32) (mm_codeValueF : Nat → Int32) (mm_pairF : Nat → Int32) (mm_sumBehindF : Nat → Int32)  (p1 : Int32) : Option ((Nat → Int32) × (Nat → Int64) × (Nat → Int32) × (Nat → Int32) × (Nat → Int32) × (Nat → Int32) × (Nat → Int32) × (Nat → Int32) × (Nat → Int32) × (Nat → Int32) × (Nat → Int32) × (Nat → Int32)) :=
  (xq_bd (xq_ald 6 mm_sumFromF ((3 * (mmI 31)) + p1)) fun v_1 => (if v_1 = ((-1)) then fX12_reading_b25 N mm_tapeF (mmI, mmJ, mm_sumFromF, mm_frameF, mm_phaseF, mm_beginsF, mm_baseF, mm_opsF, mm_codeSortF, mm_codeValueF, mm_pairF, mm_sumBehindF, p1, (3 * (mmI 31)) + p1, 0) else fX12_reading_b25 N mm_tapeF (mmI, mmJ, mm_sumFromF, mm_frameF, mm_phaseF, mm_beginsF, mm_baseF, mm_opsF, mm_codeSortF, mm_codeValueF, mm_pairF, mm_sumBehindF, p1, (3 * (mmI 31)) + p1, 1)))
set_option maxHeartbeats 4000000 in
set_option maxRecDepth 100000 in
theorem kX12_reading (l : Launch) (dC : Nat → ClassId) (dI : Nat → Nat → Nat) (cI cB cJ cZ cM : ClassId) (z : Nat) (ad : Nat → Nat) (N : Nat) (a_p0 : Nat) (mmI : Nat → Int32) (mmJ : Nat → Int64) (mmR : Nat → Nat) (mm_sumFromF : Nat → Int32) (mm_tapeF : Nat → Int32) (mm_frameF : Nat → Int32) (mm_phaseF : Nat → Int32) (mm_beginsF : Nat → Int32) (mm_baseF : Nat → Int32) (mm_opsF : Nat → Int32) (mm_codeSortF : Nat → Int32) (mm_codeValueF : Nat → Int32) (mm_pairF : Nat → Int32) (mm_sumBehindF : Nat → Int32) (p1 : Int32) {r0 : Nat → Int32} {r1 : Nat → Int64} {r2 : Nat → Int32} {r3 : Nat → Int32} {r4 : Nat → Int32} {r5 : Nat → Int32} {r6 : Nat → Int32} {r7 : Nat → Int32} {r8 : Nat → Int32} {r9 : Nat → Int32} {r10 : Nat → Int32} {r11 : Nat → Int32} (hf : fX12_reading N mmI mmJ mm_sumFromF mm_tapeF mm_frameF mm_phaseF mm_beginsF mm_baseF mm_opsF mm_codeSortF mm_codeValueF mm_pairF mm_sumBehindF p1 = some (r0, r1, r2, r3, r4, r5, r6, r7, r8, r9, r10, r11)) : xq_Ct l yX12_reading wsX12_reading { frames := 5, cells := 0, slots := 0, locals := 111 } (dC, dI) vwCl (xq_tys cI cB cJ cZ cM) z ad [.ref a_p0, .int p1] [(a_p0, .inr (12, oX12 mmI mmJ mmR)), ((mmR 24), .inl (cI, 6, .inl mm_sumFromF)), ((mmR 0), .inl (cI, 1800, .inl mm_tapeF)), ((mmR 33), .inl (cI, 20, .inl mm_frameF)), ((mmR 34), .inl (cI, 20, .inl mm_phaseF)), ((mmR 35), .inl (cZ, 20, .inl mm_beginsF)), ((mmR 37), .inl (cI, 20, .inl mm_baseF)), ((mmR 40), .inl (cI, 500, .inl mm_opsF)), ((mmR 26), .inl (cI, 3200, .inl mm_codeSortF)), ((mmR 27), .inl (cI, 3200, .inl mm_codeValueF)), ((mmR 36), .inl (cI, 20, .inl mm_pairF)), ((mmR 25), .inl (cI, 6, .inl mm_sumBehindF))] [(a_p0, .inr (12, oX12 r0 r1 mmR)), ((mmR 24), .inl (cI, 6, .inl r2)), ((mmR 0), .inl (cI, 1800, .inl mm_tapeF)), ((mmR 33), .inl (cI, 20, .inl r3)), ((mmR 34), .inl (cI, 20, .inl r4)), ((mmR 35), .inl (cZ, 20, .inl r5)), ((mmR 37), .inl (cI, 20, .inl r6)), ((mmR 40), .inl (cI, 500, .inl r7)), ((mmR 26), .inl (cI, 3200, .inl r8)), ((mmR 27), .inl (cI, 3200, .inl r9)), ((mmR 36), .inl (cI, 20, .inl r10)), ((mmR 25), .inl (cI, 6, .inl r11))] none := by
  intro sz
  refine Met.ofW (cc := cX12_reading) (maxL := 3) (ret := none) (by decide) rfl ?_
  intro p e s m args below meth c s₁ B hml hv
  obtain ⟨rfl, hsz, hP, hK, hD0, hE, hz⟩ := hv
  have hx := B.exec
  have hb := B.bytes
  have hr := B.returns
  have hts := atoms_spec (ws := wsX12_reading) B.pre
  have hown : s.vm.findClass RX12 = some m.cls := findClass_of_methodNamed B.named
  have hlocks := B.notSynchronized
  subst hsz
  have hD := hD0.self (sz := s.heap.size)
  have hN := xq_Env.of hE hz hD0
  generalize hAe : va_A [(a_p0, .inr (12, oX12 mmI mmJ mmR)), ((mmR 24), .inl (cI, 6, .inl mm_sumFromF)), ((mmR 0), .inl (cI, 1800, .inl mm_tapeF)), ((mmR 33), .inl (cI, 20, .inl mm_frameF)), ((mmR 34), .inl (cI, 20, .inl mm_phaseF)), ((mmR 35), .inl (cZ, 20, .inl mm_beginsF)), ((mmR 37), .inl (cI, 20, .inl mm_baseF)), ((mmR 40), .inl (cI, 500, .inl mm_opsF)), ((mmR 26), .inl (cI, 3200, .inl mm_codeSortF)), ((mmR 27), .inl (cI, 3200, .inl mm_codeValueF)), ((mmR 36), .inl (cI, 20, .inl mm_pairF)), ((mmR 25), .inl (cI, 6, .inl mm_sumBehindF))] s.heap.size = A at hD hN ⊢
  have hA : ∀ q : Nat, s.heap.size ≤ q → A q := fun q h => by rw [← hAe]; exact Or.inr h
  clear hAe hD0
  have hS : va_S A s.heap s.heap [] := va_S.rf
  have hl := lv_entry ([.ref a_p0, .int p1]) (n := 3) (Nat.le_of_ble_eq_true rfl)
  rw [lg_entry_eq]
  generalize (lg_sl ([.ref a_p0, .int p1]) ++ List.replicate (3 - (lg_sl ([.ref a_p0, .int p1])).length) Slot.unset).toArray = ls at hl ⊢
  have hl : lv_has ls 3 [(0, .ref a_p0), (1, .int p1)] := hl
  have hw0 := hts (.fieldLink RX12 106 "DistantVoiceModel" "in" "I") (by decide +kernel)
  have hinX12 : ∀ w ∈ wsX120, w ∈ wsX12_reading := fun w h => List.mem_cons_of_mem _ (List.mem_append_right _ h)
  have hw2 := hts (.fieldLink RX12 84 "DistantVoiceModel" "sumFrom" "[I") (by decide +kernel)
  have hw3 := hts (.fieldLink RX12 109 "DistantVoiceModel" "law" "I") (by decide +kernel)
  have hw4 := hts (.fieldLink RX12 103 "DistantVoiceModel" "codes" "I") (by decide +kernel)
  have hw5 := hts (.fieldLink RX12 87 "DistantVoiceModel" "sumBehind" "[I") (by decide +kernel)
  have b58 : ∀ (mmI_58 : Nat → Int32) (mmJ_58 : Nat → Int64) (mm_sumFromF_58 : Nat → Int32) (mm_frameF_58 : Nat → Int32) (mm_phaseF_58 : Nat → Int32) (mm_beginsF_58 : Nat → Int32) (mm_baseF_58 : Nat → Int32) (mm_opsF_58 : Nat → Int32) (mm_codeSortF_58 : Nat → Int32) (mm_codeValueF_58 : Nat → Int32) (mm_pairF_58 : Nat → Int32) (mm_sumBehindF_58 : Nat → Int32) (x2_58 : Int32) (y1_58 : Int32) (ls : Array Slot) (H : Heap) (locs : List Loc), fX12_reading_b58 N mm_tapeF (mmI_58, mmJ_58, mm_sumFromF_58, mm_frameF_58, mm_phaseF_58, mm_beginsF_58, mm_baseF_58, mm_opsF_58, mm_codeSortF_58, mm_codeValueF_58, mm_pairF_58, mm_sumBehindF_58, x2_58, y1_58) = some (r0, r1, r2, r3, r4, r5, r6, r7, r8, r9, r10, r11) → va_P (dC, dI) vwCl [(a_p0, .inr (12, oX12 mmI_58 mmJ_58 mmR)), ((mmR 24), .inl (cI, 6, .inl mm_sumFromF_58)), ((mmR 0), .inl (cI, 1800, .inl mm_tapeF)), ((mmR 33), .inl (cI, 20, .inl mm_frameF_58)), ((mmR 34), .inl (cI, 20, .inl mm_phaseF_58)), ((mmR 35), .inl (cZ, 20, .inl mm_beginsF_58)), ((mmR 37), .inl (cI, 20, .inl mm_baseF_58)), ((mmR 40), .inl (cI, 500, .inl mm_opsF_58)), ((mmR 26), .inl (cI, 3200, .inl mm_codeSortF_58)), ((mmR 27), .inl (cI, 3200, .inl mm_codeValueF_58)), ((mmR 36), .inl (cI, 20, .inl mm_pairF_58)), ((mmR 25), .inl (cI, 6, .inl mm_sumBehindF_58))] H → va_D A [(a_p0, .inr (12, oX12 mmI_58 mmJ_58 mmR)), ((mmR 24), .inl (cI, 6, .inl mm_sumFromF_58)), ((mmR 0), .inl (cI, 1800, .inl mm_tapeF)), ((mmR 33), .inl (cI, 20, .inl mm_frameF_58)), ((mmR 34), .inl (cI, 20, .inl mm_phaseF_58)), ((mmR 35), .inl (cZ, 20, .inl mm_beginsF_58)), ((mmR 37), .inl (cI, 20, .inl mm_baseF_58)), ((mmR 40), .inl (cI, 500, .inl mm_opsF_58)), ((mmR 26), .inl (cI, 3200, .inl mm_codeSortF_58)), ((mmR 27), .inl (cI, 3200, .inl mm_codeValueF_58)), ((mmR 36), .inl (cI, 20, .inl mm_pairF_58)), ((mmR 25), .inl (cI, 6, .inl mm_sumBehindF_58))] → va_S A s.heap H locs → lv_has ls 3 [(0, .ref a_p0), (2, .int x2_58)] → W p l e (headSpec wsX12_reading { frames := 5, cells := 0, slots := 0, locals := 111 }).room s m [.ref a_p0, .int p1].toArray below meth c H locs 0 0 (MQ below (xq_Q (dC, dI) vwCl (xq_tys cI cB cJ cZ cM) A [(a_p0, .inr (12, oX12 r0 r1 mmR)), ((mmR 24), .inl (cI, 6, .inl r2)), ((mmR 0), .inl (cI, 1800, .inl mm_tapeF)), ((mmR 33), .inl (cI, 20, .inl r3)), ((mmR 34), .inl (cI, 20, .inl r4)), ((mmR 35), .inl (cZ, 20, .inl r5)), ((mmR 37), .inl (cI, 20, .inl r6)), ((mmR 40), .inl (cI, 500, .inl r7)), ((mmR 26), .inl (cI, 3200, .inl r8)), ((mmR 27), .inl (cI, 3200, .inl r9)), ((mmR 36), .inl (cI, 20, .inl r10)), ((mmR 25), .inl (cI, 6, .inl r11))] none) [.ref a_p0, .int p1].toArray s 0 0 A) (F0 m 58 ls [.int y1_58, .ref a_p0]) := by
    intro mmI_58 mmJ_58 mm_sumFromF_58 mm_frameF_58 mm_phaseF_58 mm_beginsF_58 mm_baseF_58 mm_opsF_58 mm_codeSortF_58 mm_codeValueF_58 mm_pairF_58 mm_sumBehindF_58 x2_58 y1_58 ls H locs hf hP hD hS hl
    unfold fX12_reading_b58 at hf
    obtain ⟨⟨r_1_0, r_1_1, r_1_2, r_1_3, r_1_4, r_1_5, r_1_6, r_1_7, r_1_8, r_1_9⟩, h_2, hf⟩ := xq_bd_some hf
    refine xq_callV (As := [.int y1_58]) (rest := []) (ci := 12) (q0 := 0) ⟨hx, hb, hml, hown, hts⟩ (kX12_reads l dC dI cI cB cJ cZ cM z ad N a_p0 mmI_58 mmJ_58 mmR mm_frameF_58 mm_phaseF_58 mm_beginsF_58 mm_baseF_58 mm_opsF_58 mm_codeSortF_58 mm_codeValueF_58 mm_tapeF mm_pairF_58 y1_58 h_2) (cwV 1 hts gX12_reading_X12_reads rfl rfl rfl (by decide +kernel) ⟨Nat.le_of_ble_eq_true rfl, Nat.le_of_ble_eq_true rfl⟩) hN hK hP hD hS hA [0, 3, 4, 5, 6, 7, 8, 9, 2, 10] (by decide) rfl rfl rfl rfl rfl rfl hl.1 rfl (Nat.le_of_ble_eq_true rfl) dX12_reading_58 ⟨Nat.zero_le _, Nat.zero_le _⟩ (fun H locs hP hD hS => ?_)
    have hP : va_P (dC, dI) vwCl [(a_p0, .inr (12, oX12 r_1_0 r_1_1 mmR)), ((mmR 24), .inl (cI, 6, .inl mm_sumFromF_58)), ((mmR 0), .inl (cI, 1800, .inl mm_tapeF)), ((mmR 33), .inl (cI, 20, .inl r_1_2)), ((mmR 34), .inl (cI, 20, .inl r_1_3)), ((mmR 35), .inl (cZ, 20, .inl r_1_4)), ((mmR 37), .inl (cI, 20, .inl r_1_5)), ((mmR 40), .inl (cI, 500, .inl r_1_6)), ((mmR 26), .inl (cI, 3200, .inl r_1_7)), ((mmR 27), .inl (cI, 3200, .inl r_1_8)), ((mmR 36), .inl (cI, 20, .inl r_1_9)), ((mmR 25), .inl (cI, 6, .inl mm_sumBehindF_58))] H := hP
    have hD : va_D A [(a_p0, .inr (12, oX12 r_1_0 r_1_1 mmR)), ((mmR 24), .inl (cI, 6, .inl mm_sumFromF_58)), ((mmR 0), .inl (cI, 1800, .inl mm_tapeF)), ((mmR 33), .inl (cI, 20, .inl r_1_2)), ((mmR 34), .inl (cI, 20, .inl r_1_3)), ((mmR 35), .inl (cZ, 20, .inl r_1_4)), ((mmR 37), .inl (cI, 20, .inl r_1_5)), ((mmR 40), .inl (cI, 500, .inl r_1_6)), ((mmR 26), .inl (cI, 3200, .inl r_1_7)), ((mmR 27), .inl (cI, 3200, .inl r_1_8)), ((mmR 36), .inl (cI, 20, .inl r_1_9)), ((mmR 25), .inl (cI, 6, .inl mm_sumBehindF_58))] := hD
    refine W.eq (g2 := F0 m 61 ls []) rfl ?_
    refine lv_aload_n hx hb dX12_reading_61 rfl (lv_at hl 0 rfl) ?_
    refine va_get (D := (dC, dI)) (ci := 12) (v := .ref ((mmR 25))) (C := RX12) (T := TX12) (N := 70) hx hb hts hinX12 hown hK hP 0 rfl rfl 25 (by decide) hw5 (fun _ h9 => h9) rfl dX12_reading_62 ?_
    refine lv_iload_n hx hb dX12_reading_65 rfl (lv_at hl 1 rfl) ?_
    refine lv_aload_n hx hb dX12_reading_66 rfl (lv_at hl 0 rfl) ?_
    refine va_get (D := (dC, dI)) (ci := 12) (v := .int (r_1_0 30)) (C := RX12) (T := TX12) (N := 70) hx hb hts hinX12 hown hK hP 0 rfl rfl 30 (by decide) hw4 (fun _ h9 => h9) rfl dX12_reading_67 ?_
    refine xq_iast hx hb hK hP hD hS 11 0 rfl rfl hf dX12_reading_70 (fun g_3 H locs hf hP hD hS => ?_)
    have hP : va_P (dC, dI) vwCl [(a_p0, .inr (12, oX12 r_1_0 r_1_1 mmR)), ((mmR 24), .inl (cI, 6, .inl mm_sumFromF_58)), ((mmR 0), .inl (cI, 1800, .inl mm_tapeF)), ((mmR 33), .inl (cI, 20, .inl r_1_2)), ((mmR 34), .inl (cI, 20, .inl r_1_3)), ((mmR 35), .inl (cZ, 20, .inl r_1_4)), ((mmR 37), .inl (cI, 20, .inl r_1_5)), ((mmR 40), .inl (cI, 500, .inl r_1_6)), ((mmR 26), .inl (cI, 3200, .inl r_1_7)), ((mmR 27), .inl (cI, 3200, .inl r_1_8)), ((mmR 36), .inl (cI, 20, .inl r_1_9)), ((mmR 25), .inl (cI, 6, .inl g_3))] H := hP
    have hD : va_D A [(a_p0, .inr (12, oX12 r_1_0 r_1_1 mmR)), ((mmR 24), .inl (cI, 6, .inl mm_sumFromF_58)), ((mmR 0), .inl (cI, 1800, .inl mm_tapeF)), ((mmR 33), .inl (cI, 20, .inl r_1_2)), ((mmR 34), .inl (cI, 20, .inl r_1_3)), ((mmR 35), .inl (cZ, 20, .inl r_1_4)), ((mmR 37), .inl (cI, 20, .inl r_1_5)), ((mmR 40), .inl (cI, 500, .inl r_1_6)), ((mmR 26), .inl (cI, 3200, .inl r_1_7)), ((mmR 27), .inl (cI, 3200, .inl r_1_8)), ((mmR 36), .inl (cI, 20, .inl r_1_9)), ((mmR 25), .inl (cI, 6, .inl g_3))] := hD
    have e9 := Option.some.inj hf
    have e9_0 : r_1_0 = r0 := congrArg (fun t => t.1) e9
    have e9_1 : r_1_1 = r1 := congrArg (fun t => t.2.1) e9
    have e9_2 : mm_sumFromF_58 = r2 := congrArg (fun t => t.2.2.1) e9
    have e9_3 : r_1_2 = r3 := congrArg (fun t => t.2.2.2.1) e9
    have e9_4 : r_1_3 = r4 := congrArg (fun t => t.2.2.2.2.1) e9
    have e9_5 : r_1_4 = r5 := congrArg (fun t => t.2.2.2.2.2.1) e9
    have e9_6 : r_1_5 = r6 := congrArg (fun t => t.2.2.2.2.2.2.1) e9
    have e9_7 : r_1_6 = r7 := congrArg (fun t => t.2.2.2.2.2.2.2.1) e9
    have e9_8 : r_1_7 = r8 := congrArg (fun t => t.2.2.2.2.2.2.2.2.1) e9
    have e9_9 : r_1_8 = r9 := congrArg (fun t => t.2.2.2.2.2.2.2.2.2.1) e9
    have e9_10 : r_1_9 = r10 := congrArg (fun t => t.2.2.2.2.2.2.2.2.2.2.1) e9
    have e9_11 : g_3 = r11 := congrArg (fun t => t.2.2.2.2.2.2.2.2.2.2.2) e9
    clear e9 hf
    try clear b25
    try clear b58
    subst e9_0
    subst e9_1
    subst e9_2
    subst e9_3
    subst e9_4
    subst e9_5
    subst e9_6
    subst e9_7
    subst e9_8
    subst e9_9
    subst e9_10
    subst e9_11
    exact xq_vret hx hb hr hlocks hK hP hD hS dX12_reading_71
  have b25 : ∀ (mmI_25 : Nat → Int32) (mmJ_25 : Nat → Int64) (mm_sumFromF_25 : Nat → Int32) (mm_frameF_25 : Nat → Int32) (mm_phaseF_25 : Nat → Int32) (mm_beginsF_25 : Nat → Int32) (mm_baseF_25 : Nat → Int32) (mm_opsF_25 : Nat → Int32) (mm_codeSortF_25 : Nat → Int32) (mm_codeValueF_25 : Nat → Int32) (mm_pairF_25 : Nat → Int32) (mm_sumBehindF_25 : Nat → Int32) (x1_25 : Int32) (x2_25 : Int32) (y1_25 : Int32) (ls : Array Slot) (H : Heap) (locs : List Loc), fX12_reading_b25 N mm_tapeF (mmI_25, mmJ_25, mm_sumFromF_25, mm_frameF_25, mm_phaseF_25, mm_beginsF_25, mm_baseF_25, mm_opsF_25, mm_codeSortF_25, mm_codeValueF_25, mm_pairF_25, mm_sumBehindF_25, x1_25, x2_25, y1_25) = some (r0, r1, r2, r3, r4, r5, r6, r7, r8, r9, r10, r11) → va_P (dC, dI) vwCl [(a_p0, .inr (12, oX12 mmI_25 mmJ_25 mmR)), ((mmR 24), .inl (cI, 6, .inl mm_sumFromF_25)), ((mmR 0), .inl (cI, 1800, .inl mm_tapeF)), ((mmR 33), .inl (cI, 20, .inl mm_frameF_25)), ((mmR 34), .inl (cI, 20, .inl mm_phaseF_25)), ((mmR 35), .inl (cZ, 20, .inl mm_beginsF_25)), ((mmR 37), .inl (cI, 20, .inl mm_baseF_25)), ((mmR 40), .inl (cI, 500, .inl mm_opsF_25)), ((mmR 26), .inl (cI, 3200, .inl mm_codeSortF_25)), ((mmR 27), .inl (cI, 3200, .inl mm_codeValueF_25)), ((mmR 36), .inl (cI, 20, .inl mm_pairF_25)), ((mmR 25), .inl (cI, 6, .inl mm_sumBehindF_25))] H → va_D A [(a_p0, .inr (12, oX12 mmI_25 mmJ_25 mmR)), ((mmR 24), .inl (cI, 6, .inl mm_sumFromF_25)), ((mmR 0), .inl (cI, 1800, .inl mm_tapeF)), ((mmR 33), .inl (cI, 20, .inl mm_frameF_25)), ((mmR 34), .inl (cI, 20, .inl mm_phaseF_25)), ((mmR 35), .inl (cZ, 20, .inl mm_beginsF_25)), ((mmR 37), .inl (cI, 20, .inl mm_baseF_25)), ((mmR 40), .inl (cI, 500, .inl mm_opsF_25)), ((mmR 26), .inl (cI, 3200, .inl mm_codeSortF_25)), ((mmR 27), .inl (cI, 3200, .inl mm_codeValueF_25)), ((mmR 36), .inl (cI, 20, .inl mm_pairF_25)), ((mmR 25), .inl (cI, 6, .inl mm_sumBehindF_25))] → va_S A s.heap H locs → lv_has ls 3 [(0, .ref a_p0), (1, .int x1_25), (2, .int x2_25)] → W p l e (headSpec wsX12_reading { frames := 5, cells := 0, slots := 0, locals := 111 }).room s m [.ref a_p0, .int p1].toArray below meth c H locs 0 0 (MQ below (xq_Q (dC, dI) vwCl (xq_tys cI cB cJ cZ cM) A [(a_p0, .inr (12, oX12 r0 r1 mmR)), ((mmR 24), .inl (cI, 6, .inl r2)), ((mmR 0), .inl (cI, 1800, .inl mm_tapeF)), ((mmR 33), .inl (cI, 20, .inl r3)), ((mmR 34), .inl (cI, 20, .inl r4)), ((mmR 35), .inl (cZ, 20, .inl r5)), ((mmR 37), .inl (cI, 20, .inl r6)), ((mmR 40), .inl (cI, 500, .inl r7)), ((mmR 26), .inl (cI, 3200, .inl r8)), ((mmR 27), .inl (cI, 3200, .inl r9)), ((mmR 36), .inl (cI, 20, .inl r10)), ((mmR 25), .inl (cI, 6, .inl r11))] none) [.ref a_p0, .int p1].toArray s 0 0 A) (F0 m 25 ls [.int y1_25, .ref a_p0]) := by
    intro mmI_25 mmJ_25 mm_sumFromF_25 mm_frameF_25 mm_phaseF_25 mm_beginsF_25 mm_baseF_25 mm_opsF_25 mm_codeSortF_25 mm_codeValueF_25 mm_pairF_25 mm_sumBehindF_25 x1_25 x2_25 y1_25 ls H locs hf hP hD hS hl
    unfold fX12_reading_b25 at hf
    obtain ⟨⟨r_1_0, r_1_1, r_1_2⟩, h_2, hf⟩ := xq_bd_some hf
    refine xq_callV (As := [.int y1_25]) (rest := []) (ci := 12) (q0 := 0) ⟨hx, hb, hml, hown, hts⟩ (kX12_isCounted l dC dI cI cB cJ cZ cM z ad N a_p0 mmI_25 mmJ_25 mmR mm_tapeF y1_25 h_2) (cwV 1 hts gX12_reading_X12_isCounted rfl rfl rfl (by decide +kernel) ⟨Nat.le_of_ble_eq_true rfl, Nat.le_of_ble_eq_true rfl⟩) hN hK hP hD hS hA [0, 2] (by decide) rfl rfl rfl rfl rfl rfl hl.1 rfl (Nat.le_of_ble_eq_true rfl) dX12_reading_25 ⟨Nat.zero_le _, Nat.zero_le _⟩ (fun H locs hP hD hS => ?_)
    have hP : va_P (dC, dI) vwCl [(a_p0, .inr (12, oX12 r_1_1 r_1_2 mmR)), ((mmR 24), .inl (cI, 6, .inl mm_sumFromF_25)), ((mmR 0), .inl (cI, 1800, .inl mm_tapeF)), ((mmR 33), .inl (cI, 20, .inl mm_frameF_25)), ((mmR 34), .inl (cI, 20, .inl mm_phaseF_25)), ((mmR 35), .inl (cZ, 20, .inl mm_beginsF_25)), ((mmR 37), .inl (cI, 20, .inl mm_baseF_25)), ((mmR 40), .inl (cI, 500, .inl mm_opsF_25)), ((mmR 26), .inl (cI, 3200, .inl mm_codeSortF_25)), ((mmR 27), .inl (cI, 3200, .inl mm_codeValueF_25)), ((mmR 36), .inl (cI, 20, .inl mm_pairF_25)), ((mmR 25), .inl (cI, 6, .inl mm_sumBehindF_25))] H := hP
    have hD : va_D A [(a_p0, .inr (12, oX12 r_1_1 r_1_2 mmR)), ((mmR 24), .inl (cI, 6, .inl mm_sumFromF_25)), ((mmR 0), .inl (cI, 1800, .inl mm_tapeF)), ((mmR 33), .inl (cI, 20, .inl mm_frameF_25)), ((mmR 34), .inl (cI, 20, .inl mm_phaseF_25)), ((mmR 35), .inl (cZ, 20, .inl mm_beginsF_25)), ((mmR 37), .inl (cI, 20, .inl mm_baseF_25)), ((mmR 40), .inl (cI, 500, .inl mm_opsF_25)), ((mmR 26), .inl (cI, 3200, .inl mm_codeSortF_25)), ((mmR 27), .inl (cI, 3200, .inl mm_codeValueF_25)), ((mmR 36), .inl (cI, 20, .inl mm_pairF_25)), ((mmR 25), .inl (cI, 6, .inl mm_sumBehindF_25))] := hD
    refine W.eq (g2 := F0 m 28 ls [.int r_1_0]) rfl ?_
    refine lv_if_ne (tgt := 32) hx hb dX12_reading_28 (by decide) (fun c_ => ?_) (fun c_ => ?_)
    · have hf := xq_neg hf c_
      refine lv_aload_n hx hb dX12_reading_32 rfl (lv_at hl 0 rfl) ?_
      refine lv_iload_n hx hb dX12_reading_33 rfl (lv_at hl 1 rfl) ?_
      refine va_put (D := (dC, dI)) (ci := 12) (v := .int x1_25) (ty := .int) (C := RX12) (T := TX12) (N := 70) hx hb hts hinX12 tyX12 tyX12_ok nmX12 hown hK hP hD hS 0 rfl rfl 32 (by decide) hw3 (fun _ h9 => h9) rfl (by decide +kernel) rfl rfl (Nat.le_of_ble_eq_true rfl) dX12_reading_34 (fun H locs hP hD hS => ?_)
      have hP : va_P (dC, dI) vwCl [(a_p0, .inr (12, oX12 (va_up r_1_1 32 x1_25) r_1_2 mmR)), ((mmR 24), .inl (cI, 6, .inl mm_sumFromF_25)), ((mmR 0), .inl (cI, 1800, .inl mm_tapeF)), ((mmR 33), .inl (cI, 20, .inl mm_frameF_25)), ((mmR 34), .inl (cI, 20, .inl mm_phaseF_25)), ((mmR 35), .inl (cZ, 20, .inl mm_beginsF_25)), ((mmR 37), .inl (cI, 20, .inl mm_baseF_25)), ((mmR 40), .inl (cI, 500, .inl mm_opsF_25)), ((mmR 26), .inl (cI, 3200, .inl mm_codeSortF_25)), ((mmR 27), .inl (cI, 3200, .inl mm_codeValueF_25)), ((mmR 36), .inl (cI, 20, .inl mm_pairF_25)), ((mmR 25), .inl (cI, 6, .inl mm_sumBehindF_25))] H := hP
      have hD : va_D A [(a_p0, .inr (12, oX12 (va_up r_1_1 32 x1_25) r_1_2 mmR)), ((mmR 24), .inl (cI, 6, .inl mm_sumFromF_25)), ((mmR 0), .inl (cI, 1800, .inl mm_tapeF)), ((mmR 33), .inl (cI, 20, .inl mm_frameF_25)), ((mmR 34), .inl (cI, 20, .inl mm_phaseF_25)), ((mmR 35), .inl (cZ, 20, .inl mm_beginsF_25)), ((mmR 37), .inl (cI, 20, .inl mm_baseF_25)), ((mmR 40), .inl (cI, 500, .inl mm_opsF_25)), ((mmR 26), .inl (cI, 3200, .inl mm_codeSortF_25)), ((mmR 27), .inl (cI, 3200, .inl mm_codeValueF_25)), ((mmR 36), .inl (cI, 20, .inl mm_pairF_25)), ((mmR 25), .inl (cI, 6, .inl mm_sumBehindF_25))] := hD
      refine lv_aload_n hx hb dX12_reading_37 rfl (lv_at hl 0 rfl) ?_
      refine va_get (D := (dC, dI)) (ci := 12) (v := .ref ((mmR 24))) (C := RX12) (T := TX12) (N := 70) hx hb hts hinX12 hown hK hP 0 rfl rfl 24 (by decide) hw2 (fun _ h9 => h9) rfl dX12_reading_38 ?_
      refine lv_iload_n hx hb dX12_reading_41 rfl (lv_at hl 2 rfl) ?_
      refine lv_aload_n hx hb dX12_reading_42 rfl (lv_at hl 0 rfl) ?_
      refine va_get (D := (dC, dI)) (ci := 12) (v := .int (r_1_1 30)) (C := RX12) (T := TX12) (N := 70) hx hb hts hinX12 hown hK hP 0 rfl rfl 30 (by decide) hw4 (fun _ h9 => h9) rfl dX12_reading_43 ?_
      refine xq_iast hx hb hK hP hD hS 1 0 rfl rfl hf dX12_reading_46 (fun g_3 H locs hf hP hD hS => ?_)
      have hP : va_P (dC, dI) vwCl [(a_p0, .inr (12, oX12 (va_up r_1_1 32 x1_25) r_1_2 mmR)), ((mmR 24), .inl (cI, 6, .inl g_3)), ((mmR 0), .inl (cI, 1800, .inl mm_tapeF)), ((mmR 33), .inl (cI, 20, .inl mm_frameF_25)), ((mmR 34), .inl (cI, 20, .inl mm_phaseF_25)), ((mmR 35), .inl (cZ, 20, .inl mm_beginsF_25)), ((mmR 37), .inl (cI, 20, .inl mm_baseF_25)), ((mmR 40), .inl (cI, 500, .inl mm_opsF_25)), ((mmR 26), .inl (cI, 3200, .inl mm_codeSortF_25)), ((mmR 27), .inl (cI, 3200, .inl mm_codeValueF_25)), ((mmR 36), .inl (cI, 20, .inl mm_pairF_25)), ((mmR 25), .inl (cI, 6, .inl mm_sumBehindF_25))] H := hP
      have hD : va_D A [(a_p0, .inr (12, oX12 (va_up r_1_1 32 x1_25) r_1_2 mmR)), ((mmR 24), .inl (cI, 6, .inl g_3)), ((mmR 0), .inl (cI, 1800, .inl mm_tapeF)), ((mmR 33), .inl (cI, 20, .inl mm_frameF_25)), ((mmR 34), .inl (cI, 20, .inl mm_phaseF_25)), ((mmR 35), .inl (cZ, 20, .inl mm_beginsF_25)), ((mmR 37), .inl (cI, 20, .inl mm_baseF_25)), ((mmR 40), .inl (cI, 500, .inl mm_opsF_25)), ((mmR 26), .inl (cI, 3200, .inl mm_codeSortF_25)), ((mmR 27), .inl (cI, 3200, .inl mm_codeValueF_25)), ((mmR 36), .inl (cI, 20, .inl mm_pairF_25)), ((mmR 25), .inl (cI, 6, .inl mm_sumBehindF_25))] := hD
      refine lv_aload_n hx hb dX12_reading_47 rfl (lv_at hl 0 rfl) ?_
      refine lv_iload_n hx hb dX12_reading_48 rfl (lv_at hl 1 rfl) ?_
      refine lv_iconst (v := 1) hx hb dX12_reading_49 (by decide) ?_
      refine lv_icmp_ne (tgt := 57) hx hb dX12_reading_50 (by decide) (fun c_ => ?_) (fun c_ => ?_)
      · have hf := xq_neg hf c_
        refine lv_iconst (v := 0) hx hb dX12_reading_57 (by decide) ?_
        exact b58 ((va_up r_1_1 32 x1_25)) r_1_2 g_3 mm_frameF_25 mm_phaseF_25 mm_beginsF_25 mm_baseF_25 mm_opsF_25 mm_codeSortF_25 mm_codeValueF_25 mm_pairF_25 mm_sumBehindF_25 x2_25 0 _ _ _ hf hP hD hS (lv_sub hl [0, 2] rfl)
      · have hf := xq_pos hf c_
        refine lv_iconst (v := 1) hx hb dX12_reading_53 (by decide) ?_
        refine lv_goto (tgt := 58) hx hb dX12_reading_54 (by decide) ?_
        exact b58 ((va_up r_1_1 32 x1_25)) r_1_2 g_3 mm_frameF_25 mm_phaseF_25 mm_beginsF_25 mm_baseF_25 mm_opsF_25 mm_codeSortF_25 mm_codeValueF_25 mm_pairF_25 mm_sumBehindF_25 x2_25 1 _ _ _ hf hP hD hS (lv_sub hl [0, 2] rfl)
    · have hf := xq_pos hf c_
      have e9 := Option.some.inj hf
      have e9_0 : r_1_1 = r0 := congrArg (fun t => t.1) e9
      have e9_1 : r_1_2 = r1 := congrArg (fun t => t.2.1) e9
      have e9_2 : mm_sumFromF_25 = r2 := congrArg (fun t => t.2.2.1) e9
      have e9_3 : mm_frameF_25 = r3 := congrArg (fun t => t.2.2.2.1) e9
      have e9_4 : mm_phaseF_25 = r4 := congrArg (fun t => t.2.2.2.2.1) e9
      have e9_5 : mm_beginsF_25 = r5 := congrArg (fun t => t.2.2.2.2.2.1) e9
      have e9_6 : mm_baseF_25 = r6 := congrArg (fun t => t.2.2.2.2.2.2.1) e9
      have e9_7 : mm_opsF_25 = r7 := congrArg (fun t => t.2.2.2.2.2.2.2.1) e9
      have e9_8 : mm_codeSortF_25 = r8 := congrArg (fun t => t.2.2.2.2.2.2.2.2.1) e9
      have e9_9 : mm_codeValueF_25 = r9 := congrArg (fun t => t.2.2.2.2.2.2.2.2.2.1) e9
      have e9_10 : mm_pairF_25 = r10 := congrArg (fun t => t.2.2.2.2.2.2.2.2.2.2.1) e9
      have e9_11 : mm_sumBehindF_25 = r11 := congrArg (fun t => t.2.2.2.2.2.2.2.2.2.2.2) e9
      clear e9 hf
      try clear b25
      try clear b58
      subst e9_0
      subst e9_1
      subst e9_2
      subst e9_3
      subst e9_4
      subst e9_5
      subst e9_6
      subst e9_7
      subst e9_8
      subst e9_9
      subst e9_10
      subst e9_11
      exact xq_vret hx hb hr hlocks hK hP hD hS dX12_reading_31
  unfold fX12_reading at hf
  refine lv_iconst (v := 3) hx hb dX12_reading_0 (by decide) ?_
  refine lv_aload_n hx hb dX12_reading_1 rfl (lv_at hl 0 rfl) ?_
  refine va_get (D := (dC, dI)) (ci := 12) (v := .int (mmI 31)) (C := RX12) (T := TX12) (N := 70) hx hb hts hinX12 hown hK hP 0 rfl rfl 31 (by decide) hw0 (fun _ h9 => h9) rfl dX12_reading_2 ?_
  refine lv_imul hx hb dX12_reading_5 ?_
  refine lv_iload_n hx hb dX12_reading_6 rfl (lv_at hl 1 rfl) ?_
  refine lv_iadd hx hb dX12_reading_7 ?_
  refine lv_istore_n (lv' := [(2, .int ((3 * (mmI 31)) + p1)), (0, .ref a_p0), (1, .int p1)]) hx hb dX12_reading_8 rfl hl (by decide) rfl (fun ls hl => ?_)
  refine lv_aload_n hx hb dX12_reading_9 rfl (lv_at hl 1 rfl) ?_
  refine lv_aload_n hx hb dX12_reading_10 rfl (lv_at hl 1 rfl) ?_
  refine va_get (D := (dC, dI)) (ci := 12) (v := .ref ((mmR 24))) (C := RX12) (T := TX12) (N := 70) hx hb hts hinX12 hown hK hP 0 rfl rfl 24 (by decide) hw2 (fun _ h9 => h9) rfl dX12_reading_11 ?_
  refine lv_iload_n hx hb dX12_reading_14 rfl (lv_at hl 0 rfl) ?_
  refine xq_iald hx hb hK hP 1 0 rfl rfl hf dX12_reading_15 (fun v_1 hf => ?_)
  refine lv_iconst (v := (-1)) hx hb dX12_reading_16 (by decide) ?_
  refine lv_icmp_eq (tgt := 24) hx hb dX12_reading_17 (by decide) (fun c_ => ?_) (fun c_ => ?_)
  · have hf := xq_pos hf c_
    refine lv_iconst (v := 0) hx hb dX12_reading_24 (by decide) ?_
    exact b25 mmI mmJ mm_sumFromF mm_frameF mm_phaseF mm_beginsF mm_baseF mm_opsF mm_codeSortF mm_codeValueF mm_pairF mm_sumBehindF p1 ((3 * (mmI 31)) + p1) 0 _ _ _ hf hP hD hS (lv_sub hl [1, 2, 0] rfl)
  · have hf := xq_neg hf c_
    refine lv_iconst (v := 1) hx hb dX12_reading_20 (by decide) ?_
    refine lv_goto (tgt := 25) hx hb dX12_reading_21 (by decide) ?_
    exact b25 mmI mmJ mm_sumFromF mm_frameF mm_phaseF mm_beginsF mm_baseF mm_opsF mm_codeSortF mm_codeValueF mm_pairF mm_sumBehindF p1 ((3 * (mmI 31)) + p1) 1 _ _ _ hf hP hD hS (lv_sub hl [1, 2, 0] rfl)
set_option maxRecDepth 20000 in
theorem ggX12_statement_X12_lex : GoodIn wsX12_statement wsX12_lex := goodIn_r _ [20, 21, 22, 23, 24, 19, 25, 1, 26, 176, 177, 178, 179, 180, 181, 182, 183, 184, 185, 186, 187, 188, 189, 190, 191, 192, 193, 194, 195, 196, 197, 198, 199, 200, 201, 202, 203, 204, 205, 206, 207, 208, 209, 210, 211, 212, 213, 214, 215, 216, 217, 218, 219, 220, 221, 222, 223, 224, 225, 226, 227, 228, 229, 230, 231, 232, 233, 234, 235, 236, 237, 238, 239, 240, 241, 242, 243, 244, 245] rfl (by decide +kernel)
set_option maxRecDepth 20000 in
theorem gX12_statement_X12_lex : GoodIn wsX12_statement (wsV RX12 244 RX12 yX12_lex wsX12_lex) := goodIn_app (goodIn_of _ (by decide +kernel)) ggX12_statement_X12_lex
set_option maxRecDepth 20000 in
theorem ggX12_statement_X12_isWord : GoodIn wsX12_statement wsX12_isWord := goodIn_r _ [30, 31, 32, 176, 177, 178, 179, 180, 181, 182, 183, 184, 185, 186, 187, 188, 189, 190, 191, 192, 193, 194, 195, 196, 197, 198, 199, 200, 201, 202, 203, 204, 205, 206, 207, 208, 209, 210, 211, 212, 213, 214, 215, 216, 217, 218, 219, 220, 221, 222, 223, 224, 225, 226, 227, 228, 229, 230, 231, 232, 233, 234, 235, 236, 237, 238, 239, 240, 241, 242, 243, 244, 245] rfl (by decide +kernel)
set_option maxRecDepth 20000 in
theorem gX12_statement_X12_isWord : GoodIn wsX12_statement (wsV RX12 317 RX12 yX12_isWord wsX12_isWord) := goodIn_app (goodIn_of _ (by decide +kernel)) ggX12_statement_X12_isWord
set_option maxRecDepth 20000 in
theorem ggX12_statement_X12_telling : GoodIn wsX12_statement wsX12_telling := goodIn_r _ [36, 37, 38, 39, 19, 40, 1, 15, 22, 23, 24, 25, 26, 41, 42, 43, 44, 45, 46, 47, 31, 21, 48, 32, 49, 50, 51, 52, 53, 54, 55, 56, 57, 58, 16, 17, 18, 20, 59, 60, 61, 176, 177, 178, 179, 180, 181, 182, 183, 184, 185, 186, 187, 188, 189, 190, 191, 192, 193, 194, 195, 196, 197, 198, 199, 200, 201, 202, 203, 204, 205, 206, 207, 208, 209, 210, 211, 212, 213, 214, 215, 216, 217, 218, 219, 220, 221, 222, 223, 224, 225, 226, 227, 228, 229, 230, 231, 232, 233, 234, 235, 236, 237, 238, 239, 240, 241, 242, 243, 244, 245] rfl (by decide +kernel)
set_option maxRecDepth 20000 in
theorem gX12_statement_X12_telling : GoodIn wsX12_statement (wsV RX12 365 RX12 yX12_telling wsX12_telling) := goodIn_app (goodIn_of _ (by decide +kernel)) ggX12_statement_X12_telling
set_option maxRecDepth 20000 in
theorem ggX12_statement_X12_earing : GoodIn wsX12_statement wsX12_earing := goodIn_r _ [65, 66, 4, 67, 68, 69, 70, 71, 1, 37, 38, 39, 19, 40, 15, 22, 23, 24, 25, 26, 41, 42, 43, 44, 45, 46, 47, 31, 21, 48, 32, 49, 50, 51, 52, 53, 54, 72, 73, 74, 75, 16, 17, 18, 20, 76, 77, 78, 79, 80, 2, 6, 8, 10, 11, 81, 82, 12, 13, 14, 83, 84, 85, 86, 87, 88, 89, 90, 91, 92, 93, 94, 95, 96, 97, 98, 99, 100, 101, 102, 103, 27, 28, 29, 30, 55, 56, 57, 58, 59, 60, 61, 176, 177, 178, 179, 180, 181, 182, 183, 184, 185, 186, 187, 188, 189, 190, 191, 192, 193, 194, 195, 196, 197, 198, 199, 200, 201, 202, 203, 204, 205, 206, 207, 208, 209, 210, 211, 212, 213, 214, 215, 216, 217, 218, 219, 220, 221, 222, 223, 224, 225, 226, 227, 228, 229, 230, 231, 232, 233, 234, 235, 236, 237, 238, 239, 240, 241, 242, 243, 244, 245] rfl (by decide +kernel)
set_option maxRecDepth 20000 in
theorem gX12_statement_X12_earing : GoodIn wsX12_statement (wsV RX12 368 RX12 yX12_earing wsX12_earing) := goodIn_app (goodIn_of _ (by decide +kernel)) ggX12_statement_X12_earing
set_option maxRecDepth 20000 in
theorem ggX12_statement_X12_placing : GoodIn wsX12_statement wsX12_placing := goodIn_r _ [107, 98, 4, 99, 81, 15, 5, 1, 108, 82, 109, 37, 38, 39, 19, 40, 22, 23, 24, 25, 26, 41, 42, 43, 44, 45, 46, 47, 31, 21, 48, 32, 49, 50, 51, 52, 53, 54, 72, 73, 74, 75, 16, 17, 18, 20, 76, 77, 78, 79, 80, 2, 6, 8, 10, 68, 70, 11, 12, 13, 14, 83, 84, 85, 86, 87, 88, 89, 90, 91, 92, 93, 94, 95, 96, 97, 66, 67, 100, 101, 102, 103, 27, 28, 29, 30, 55, 56, 57, 58, 59, 60, 61, 110, 111, 112, 113, 176, 177, 178, 179, 180, 181, 182, 183, 184, 185, 186, 187, 188, 189, 190, 191, 192, 193, 194, 195, 196, 197, 198, 199, 200, 201, 202, 203, 204, 205, 206, 207, 208, 209, 210, 211, 212, 213, 214, 215, 216, 217, 218, 219, 220, 221, 222, 223, 224, 225, 226, 227, 228, 229, 230, 231, 232, 233, 234, 235, 236, 237, 238, 239, 240, 241, 242, 243, 244, 245] rfl (by decide +kernel)
set_option maxRecDepth 20000 in
theorem gX12_statement_X12_placing : GoodIn wsX12_statement (wsV RX12 371 RX12 yX12_placing wsX12_placing) := goodIn_app (goodIn_of _ (by decide +kernel)) ggX12_statement_X12_placing
set_option maxRecDepth 20000 in
theorem ggX12_statement_X12_reading : GoodIn wsX12_statement wsX12_reading := goodIn_r _ [117, 4, 118, 119, 120, 121, 37, 38, 39, 19, 40, 1, 15, 22, 23, 24, 25, 26, 41, 42, 43, 44, 45, 46, 47, 31, 21, 48, 32, 49, 50, 51, 52, 53, 54, 122, 123, 124, 125, 126, 127, 128, 129, 130, 131, 132, 133, 134, 135, 136, 137, 138, 139, 140, 141, 90, 91, 92, 93, 87, 142, 83, 6, 84, 85, 70, 68, 86, 82, 16, 17, 18, 20, 143, 144, 145, 27, 28, 29, 30, 146, 147, 148, 149, 150, 151, 152, 153, 154, 155, 156, 157, 158, 159, 160, 161, 162, 163, 164, 165, 166, 167, 168, 89, 88, 169, 170, 171, 172, 173, 174, 175, 176, 177, 178, 179, 180, 181, 182, 183, 184, 185, 186, 187, 188, 189, 190, 191, 192, 193, 194, 195, 196, 197, 198, 199, 200, 201, 202, 203, 204, 205, 206, 207, 208, 209, 210, 211, 212, 213, 214, 215, 216, 217, 218, 219, 220, 221, 222, 223, 224, 225, 226, 227, 228, 229, 230, 231, 232, 233, 234, 235, 236, 237, 238, 239, 240, 241, 242, 243, 244, 245] rfl (by decide +kernel)
set_option maxRecDepth 20000 in
theorem gX12_statement_X12_reading : GoodIn wsX12_statement (wsV RX12 374 RX12 yX12_reading wsX12_reading) := goodIn_app (goodIn_of _ (by decide +kernel)) ggX12_statement_X12_reading
set_option maxRecDepth 20000 in
theorem ggX12_statement_X12_blame : GoodIn wsX12_statement wsX12_blame := goodIn_r _ [25, 1, 26, 176, 177, 178, 179, 180, 181, 182, 183, 184, 185, 186, 187, 188, 189, 190, 191, 192, 193, 194, 195, 196, 197, 198, 199, 200, 201, 202, 203, 204, 205, 206, 207, 208, 209, 210, 211, 212, 213, 214, 215, 216, 217, 218, 219, 220, 221, 222, 223, 224, 225, 226, 227, 228, 229, 230, 231, 232, 233, 234, 235, 236, 237, 238, 239, 240, 241, 242, 243, 244, 245] rfl (by decide +kernel)
set_option maxRecDepth 20000 in
theorem gX12_statement_X12_blame : GoodIn wsX12_statement (wsV RX12 233 RX12 yX12_blame wsX12_blame) := goodIn_app (goodIn_of _ (by decide +kernel)) ggX12_statement_X12_blame
def dsX12_statement_0 : List (Nat × Instr × Nat) := [(0, (.aload_n 0, 1)), (1, (.invokevirtual 244, 3)), (4, (.aload_n 0, 1)), (5, (.getfield 36, 3)), (8, (.ifCond .le 4, 3)), (11, (.return_, 1)), (12, (.aload_n 0, 1)), (13, (.ldc2_w 255, 3)), (16, (.invokevirtual 317, 3)), (19, (.ifCond .eq 30, 3)), (22, (.aload_n 0, 1)), (23, (.getfield 57, 3)), (26, (.aload_n 0, 1)), (27, (.getfield 106, 3)), (30, (.aload_n 0, 1)), (31, (.aload_n 0, 1)), (32, (.getfield 54, 3)), (35, (.aload_n 0, 1)), (36, (.getfield 106, 3)), (39, (.iaload, 1)), (40, (.iconst 1, 1)), (41, (.isub, 1)), (42, (.invokevirtual 365, 3)), (45, (.iastore, 1)), (46, (.goto 156, 3)), (49, (.aload_n 0, 1)), (50, (.ldc2_w 257, 3)), (53, (.invokevirtual 317, 3)), (56, (.ifCond .eq 21, 3)), (59, (.aload_n 0, 1)), (60, (.getfield 60, 3)), (63, (.aload_n 0, 1)), (64, (.getfield 106, 3)), (67, (.aload_n 0, 1)), (68, (.bipush 9, 2)), (70, (.invokevirtual 365, 3)), (73, (.iastore, 1)), (74, (.goto 128, 3)), (77, (.aload_n 0, 1)), (78, (.ldc2_w 259, 3)), (81, (.invokevirtual 317, 3)), (84, (.ifCond .eq 21, 3)), (87, (.aload_n 0, 1)), (88, (.getfield 63, 3)), (91, (.aload_n 0, 1)), (92, (.getfield 106, 3)), (95, (.aload_n 0, 1)), (96, (.bipush 100, 2)), (98, (.invokevirtual 365, 3)), (101, (.iastore, 1)), (102, (.goto 100, 3)), (105, (.aload_n 0, 1)), (106, (.ldc2_w 261, 3)), (109, (.invokevirtual 317, 3)), (112, (.ifCond .eq 10, 3)), (115, (.aload_n 0, 1)), (116, (.invokevirtual 368, 3)), (119, (.goto 83, 3)), (122, (.aload_n 0, 1)), (123, (.ldc2_w 267, 3))]
theorem dsX12_statement_0_ok : (dsX12_statement_0.all fun q => decide (decode cX12_statement q.1 = .ok q.2)) = true := by decide +kernel
theorem dX12_statement_0 : decode cX12_statement 0 = .ok (.aload_n 0, 1) := of_decide_eq_true (List.all_eq_true.mp dsX12_statement_0_ok (0, (.aload_n 0, 1)) (List.mem_of_getElem? (i := 0) rfl))
theorem dX12_statement_1 : decode cX12_statement 1 = .ok (.invokevirtual 244, 3) := of_decide_eq_true (List.all_eq_true.mp dsX12_statement_0_ok (1, (.invokevirtual 244, 3)) (List.mem_of_getElem? (i := 1) rfl))
theorem dX12_statement_4 : decode cX12_statement 4 = .ok (.aload_n 0, 1) := of_decide_eq_true (List.all_eq_true.mp dsX12_statement_0_ok (4, (.aload_n 0, 1)) (List.mem_of_getElem? (i := 2) rfl))
theorem dX12_statement_5 : decode cX12_statement 5 = .ok (.getfield 36, 3) := of_decide_eq_true (List.all_eq_true.mp dsX12_statement_0_ok (5, (.getfield 36, 3)) (List.mem_of_getElem? (i := 3) rfl))
theorem dX12_statement_8 : decode cX12_statement 8 = .ok (.ifCond .le 4, 3) := of_decide_eq_true (List.all_eq_true.mp dsX12_statement_0_ok (8, (.ifCond .le 4, 3)) (List.mem_of_getElem? (i := 4) rfl))
theorem dX12_statement_11 : decode cX12_statement 11 = .ok (.return_, 1) := of_decide_eq_true (List.all_eq_true.mp dsX12_statement_0_ok (11, (.return_, 1)) (List.mem_of_getElem? (i := 5) rfl))
theorem dX12_statement_12 : decode cX12_statement 12 = .ok (.aload_n 0, 1) := of_decide_eq_true (List.all_eq_true.mp dsX12_statement_0_ok (12, (.aload_n 0, 1)) (List.mem_of_getElem? (i := 6) rfl))
theorem dX12_statement_13 : decode cX12_statement 13 = .ok (.ldc2_w 255, 3) := of_decide_eq_true (List.all_eq_true.mp dsX12_statement_0_ok (13, (.ldc2_w 255, 3)) (List.mem_of_getElem? (i := 7) rfl))
theorem dX12_statement_16 : decode cX12_statement 16 = .ok (.invokevirtual 317, 3) := of_decide_eq_true (List.all_eq_true.mp dsX12_statement_0_ok (16, (.invokevirtual 317, 3)) (List.mem_of_getElem? (i := 8) rfl))
theorem dX12_statement_19 : decode cX12_statement 19 = .ok (.ifCond .eq 30, 3) := of_decide_eq_true (List.all_eq_true.mp dsX12_statement_0_ok (19, (.ifCond .eq 30, 3)) (List.mem_of_getElem? (i := 9) rfl))
theorem dX12_statement_22 : decode cX12_statement 22 = .ok (.aload_n 0, 1) := of_decide_eq_true (List.all_eq_true.mp dsX12_statement_0_ok (22, (.aload_n 0, 1)) (List.mem_of_getElem? (i := 10) rfl))
theorem dX12_statement_23 : decode cX12_statement 23 = .ok (.getfield 57, 3) := of_decide_eq_true (List.all_eq_true.mp dsX12_statement_0_ok (23, (.getfield 57, 3)) (List.mem_of_getElem? (i := 11) rfl))
theorem dX12_statement_26 : decode cX12_statement 26 = .ok (.aload_n 0, 1) := of_decide_eq_true (List.all_eq_true.mp dsX12_statement_0_ok (26, (.aload_n 0, 1)) (List.mem_of_getElem? (i := 12) rfl))
theorem dX12_statement_27 : decode cX12_statement 27 = .ok (.getfield 106, 3) := of_decide_eq_true (List.all_eq_true.mp dsX12_statement_0_ok (27, (.getfield 106, 3)) (List.mem_of_getElem? (i := 13) rfl))
theorem dX12_statement_30 : decode cX12_statement 30 = .ok (.aload_n 0, 1) := of_decide_eq_true (List.all_eq_true.mp dsX12_statement_0_ok (30, (.aload_n 0, 1)) (List.mem_of_getElem? (i := 14) rfl))
theorem dX12_statement_31 : decode cX12_statement 31 = .ok (.aload_n 0, 1) := of_decide_eq_true (List.all_eq_true.mp dsX12_statement_0_ok (31, (.aload_n 0, 1)) (List.mem_of_getElem? (i := 15) rfl))
theorem dX12_statement_32 : decode cX12_statement 32 = .ok (.getfield 54, 3) := of_decide_eq_true (List.all_eq_true.mp dsX12_statement_0_ok (32, (.getfield 54, 3)) (List.mem_of_getElem? (i := 16) rfl))
theorem dX12_statement_35 : decode cX12_statement 35 = .ok (.aload_n 0, 1) := of_decide_eq_true (List.all_eq_true.mp dsX12_statement_0_ok (35, (.aload_n 0, 1)) (List.mem_of_getElem? (i := 17) rfl))
theorem dX12_statement_36 : decode cX12_statement 36 = .ok (.getfield 106, 3) := of_decide_eq_true (List.all_eq_true.mp dsX12_statement_0_ok (36, (.getfield 106, 3)) (List.mem_of_getElem? (i := 18) rfl))
theorem dX12_statement_39 : decode cX12_statement 39 = .ok (.iaload, 1) := of_decide_eq_true (List.all_eq_true.mp dsX12_statement_0_ok (39, (.iaload, 1)) (List.mem_of_getElem? (i := 19) rfl))
theorem dX12_statement_40 : decode cX12_statement 40 = .ok (.iconst 1, 1) := of_decide_eq_true (List.all_eq_true.mp dsX12_statement_0_ok (40, (.iconst 1, 1)) (List.mem_of_getElem? (i := 20) rfl))
theorem dX12_statement_41 : decode cX12_statement 41 = .ok (.isub, 1) := of_decide_eq_true (List.all_eq_true.mp dsX12_statement_0_ok (41, (.isub, 1)) (List.mem_of_getElem? (i := 21) rfl))
theorem dX12_statement_42 : decode cX12_statement 42 = .ok (.invokevirtual 365, 3) := of_decide_eq_true (List.all_eq_true.mp dsX12_statement_0_ok (42, (.invokevirtual 365, 3)) (List.mem_of_getElem? (i := 22) rfl))
theorem dX12_statement_45 : decode cX12_statement 45 = .ok (.iastore, 1) := of_decide_eq_true (List.all_eq_true.mp dsX12_statement_0_ok (45, (.iastore, 1)) (List.mem_of_getElem? (i := 23) rfl))
theorem dX12_statement_46 : decode cX12_statement 46 = .ok (.goto 156, 3) := of_decide_eq_true (List.all_eq_true.mp dsX12_statement_0_ok (46, (.goto 156, 3)) (List.mem_of_getElem? (i := 24) rfl))
theorem dX12_statement_49 : decode cX12_statement 49 = .ok (.aload_n 0, 1) := of_decide_eq_true (List.all_eq_true.mp dsX12_statement_0_ok (49, (.aload_n 0, 1)) (List.mem_of_getElem? (i := 25) rfl))
theorem dX12_statement_50 : decode cX12_statement 50 = .ok (.ldc2_w 257, 3) := of_decide_eq_true (List.all_eq_true.mp dsX12_statement_0_ok (50, (.ldc2_w 257, 3)) (List.mem_of_getElem? (i := 26) rfl))
theorem dX12_statement_53 : decode cX12_statement 53 = .ok (.invokevirtual 317, 3) := of_decide_eq_true (List.all_eq_true.mp dsX12_statement_0_ok (53, (.invokevirtual 317, 3)) (List.mem_of_getElem? (i := 27) rfl))
theorem dX12_statement_56 : decode cX12_statement 56 = .ok (.ifCond .eq 21, 3) := of_decide_eq_true (List.all_eq_true.mp dsX12_statement_0_ok (56, (.ifCond .eq 21, 3)) (List.mem_of_getElem? (i := 28) rfl))
theorem dX12_statement_59 : decode cX12_statement 59 = .ok (.aload_n 0, 1) := of_decide_eq_true (List.all_eq_true.mp dsX12_statement_0_ok (59, (.aload_n 0, 1)) (List.mem_of_getElem? (i := 29) rfl))
theorem dX12_statement_60 : decode cX12_statement 60 = .ok (.getfield 60, 3) := of_decide_eq_true (List.all_eq_true.mp dsX12_statement_0_ok (60, (.getfield 60, 3)) (List.mem_of_getElem? (i := 30) rfl))
theorem dX12_statement_63 : decode cX12_statement 63 = .ok (.aload_n 0, 1) := of_decide_eq_true (List.all_eq_true.mp dsX12_statement_0_ok (63, (.aload_n 0, 1)) (List.mem_of_getElem? (i := 31) rfl))
theorem dX12_statement_64 : decode cX12_statement 64 = .ok (.getfield 106, 3) := of_decide_eq_true (List.all_eq_true.mp dsX12_statement_0_ok (64, (.getfield 106, 3)) (List.mem_of_getElem? (i := 32) rfl))
theorem dX12_statement_67 : decode cX12_statement 67 = .ok (.aload_n 0, 1) := of_decide_eq_true (List.all_eq_true.mp dsX12_statement_0_ok (67, (.aload_n 0, 1)) (List.mem_of_getElem? (i := 33) rfl))
theorem dX12_statement_68 : decode cX12_statement 68 = .ok (.bipush 9, 2) := of_decide_eq_true (List.all_eq_true.mp dsX12_statement_0_ok (68, (.bipush 9, 2)) (List.mem_of_getElem? (i := 34) rfl))
theorem dX12_statement_70 : decode cX12_statement 70 = .ok (.invokevirtual 365, 3) := of_decide_eq_true (List.all_eq_true.mp dsX12_statement_0_ok (70, (.invokevirtual 365, 3)) (List.mem_of_getElem? (i := 35) rfl))
theorem dX12_statement_73 : decode cX12_statement 73 = .ok (.iastore, 1) := of_decide_eq_true (List.all_eq_true.mp dsX12_statement_0_ok (73, (.iastore, 1)) (List.mem_of_getElem? (i := 36) rfl))
theorem dX12_statement_74 : decode cX12_statement 74 = .ok (.goto 128, 3) := of_decide_eq_true (List.all_eq_true.mp dsX12_statement_0_ok (74, (.goto 128, 3)) (List.mem_of_getElem? (i := 37) rfl))
theorem dX12_statement_77 : decode cX12_statement 77 = .ok (.aload_n 0, 1) := of_decide_eq_true (List.all_eq_true.mp dsX12_statement_0_ok (77, (.aload_n 0, 1)) (List.mem_of_getElem? (i := 38) rfl))
theorem dX12_statement_78 : decode cX12_statement 78 = .ok (.ldc2_w 259, 3) := of_decide_eq_true (List.all_eq_true.mp dsX12_statement_0_ok (78, (.ldc2_w 259, 3)) (List.mem_of_getElem? (i := 39) rfl))
theorem dX12_statement_81 : decode cX12_statement 81 = .ok (.invokevirtual 317, 3) := of_decide_eq_true (List.all_eq_true.mp dsX12_statement_0_ok (81, (.invokevirtual 317, 3)) (List.mem_of_getElem? (i := 40) rfl))
theorem dX12_statement_84 : decode cX12_statement 84 = .ok (.ifCond .eq 21, 3) := of_decide_eq_true (List.all_eq_true.mp dsX12_statement_0_ok (84, (.ifCond .eq 21, 3)) (List.mem_of_getElem? (i := 41) rfl))
theorem dX12_statement_87 : decode cX12_statement 87 = .ok (.aload_n 0, 1) := of_decide_eq_true (List.all_eq_true.mp dsX12_statement_0_ok (87, (.aload_n 0, 1)) (List.mem_of_getElem? (i := 42) rfl))
theorem dX12_statement_88 : decode cX12_statement 88 = .ok (.getfield 63, 3) := of_decide_eq_true (List.all_eq_true.mp dsX12_statement_0_ok (88, (.getfield 63, 3)) (List.mem_of_getElem? (i := 43) rfl))
theorem dX12_statement_91 : decode cX12_statement 91 = .ok (.aload_n 0, 1) := of_decide_eq_true (List.all_eq_true.mp dsX12_statement_0_ok (91, (.aload_n 0, 1)) (List.mem_of_getElem? (i := 44) rfl))
theorem dX12_statement_92 : decode cX12_statement 92 = .ok (.getfield 106, 3) := of_decide_eq_true (List.all_eq_true.mp dsX12_statement_0_ok (92, (.getfield 106, 3)) (List.mem_of_getElem? (i := 45) rfl))
theorem dX12_statement_95 : decode cX12_statement 95 = .ok (.aload_n 0, 1) := of_decide_eq_true (List.all_eq_true.mp dsX12_statement_0_ok (95, (.aload_n 0, 1)) (List.mem_of_getElem? (i := 46) rfl))
theorem dX12_statement_96 : decode cX12_statement 96 = .ok (.bipush 100, 2) := of_decide_eq_true (List.all_eq_true.mp dsX12_statement_0_ok (96, (.bipush 100, 2)) (List.mem_of_getElem? (i := 47) rfl))
theorem dX12_statement_98 : decode cX12_statement 98 = .ok (.invokevirtual 365, 3) := of_decide_eq_true (List.all_eq_true.mp dsX12_statement_0_ok (98, (.invokevirtual 365, 3)) (List.mem_of_getElem? (i := 48) rfl))
theorem dX12_statement_101 : decode cX12_statement 101 = .ok (.iastore, 1) := of_decide_eq_true (List.all_eq_true.mp dsX12_statement_0_ok (101, (.iastore, 1)) (List.mem_of_getElem? (i := 49) rfl))
theorem dX12_statement_102 : decode cX12_statement 102 = .ok (.goto 100, 3) := of_decide_eq_true (List.all_eq_true.mp dsX12_statement_0_ok (102, (.goto 100, 3)) (List.mem_of_getElem? (i := 50) rfl))
theorem dX12_statement_105 : decode cX12_statement 105 = .ok (.aload_n 0, 1) := of_decide_eq_true (List.all_eq_true.mp dsX12_statement_0_ok (105, (.aload_n 0, 1)) (List.mem_of_getElem? (i := 51) rfl))
theorem dX12_statement_106 : decode cX12_statement 106 = .ok (.ldc2_w 261, 3) := of_decide_eq_true (List.all_eq_true.mp dsX12_statement_0_ok (106, (.ldc2_w 261, 3)) (List.mem_of_getElem? (i := 52) rfl))
theorem dX12_statement_109 : decode cX12_statement 109 = .ok (.invokevirtual 317, 3) := of_decide_eq_true (List.all_eq_true.mp dsX12_statement_0_ok (109, (.invokevirtual 317, 3)) (List.mem_of_getElem? (i := 53) rfl))
theorem dX12_statement_112 : decode cX12_statement 112 = .ok (.ifCond .eq 10, 3) := of_decide_eq_true (List.all_eq_true.mp dsX12_statement_0_ok (112, (.ifCond .eq 10, 3)) (List.mem_of_getElem? (i := 54) rfl))
theorem dX12_statement_115 : decode cX12_statement 115 = .ok (.aload_n 0, 1) := of_decide_eq_true (List.all_eq_true.mp dsX12_statement_0_ok (115, (.aload_n 0, 1)) (List.mem_of_getElem? (i := 55) rfl))
theorem dX12_statement_116 : decode cX12_statement 116 = .ok (.invokevirtual 368, 3) := of_decide_eq_true (List.all_eq_true.mp dsX12_statement_0_ok (116, (.invokevirtual 368, 3)) (List.mem_of_getElem? (i := 56) rfl))
theorem dX12_statement_119 : decode cX12_statement 119 = .ok (.goto 83, 3) := of_decide_eq_true (List.all_eq_true.mp dsX12_statement_0_ok (119, (.goto 83, 3)) (List.mem_of_getElem? (i := 57) rfl))
theorem dX12_statement_122 : decode cX12_statement 122 = .ok (.aload_n 0, 1) := of_decide_eq_true (List.all_eq_true.mp dsX12_statement_0_ok (122, (.aload_n 0, 1)) (List.mem_of_getElem? (i := 58) rfl))
theorem dX12_statement_123 : decode cX12_statement 123 = .ok (.ldc2_w 267, 3) := of_decide_eq_true (List.all_eq_true.mp dsX12_statement_0_ok (123, (.ldc2_w 267, 3)) (List.mem_of_getElem? (i := 59) rfl))
def dsX12_statement_1 : List (Nat × Instr × Nat) := [(126, (.invokevirtual 317, 3)), (129, (.ifCond .eq 10, 3)), (132, (.aload_n 0, 1)), (133, (.invokevirtual 371, 3)), (136, (.goto 66, 3)), (139, (.aload_n 0, 1)), (140, (.ldc2_w 273, 3)), (143, (.invokevirtual 317, 3)), (146, (.ifCond .eq 11, 3)), (149, (.aload_n 0, 1)), (150, (.iconst 0, 1)), (151, (.invokevirtual 374, 3)), (154, (.goto 48, 3)), (157, (.aload_n 0, 1)), (158, (.ldc2_w 275, 3)), (161, (.invokevirtual 317, 3)), (164, (.ifCond .eq 11, 3)), (167, (.aload_n 0, 1)), (168, (.iconst 1, 1)), (169, (.invokevirtual 374, 3)), (172, (.goto 30, 3)), (175, (.aload_n 0, 1)), (176, (.ldc2_w 277, 3)), (179, (.invokevirtual 317, 3)), (182, (.ifCond .eq 11, 3)), (185, (.aload_n 0, 1)), (186, (.iconst 2, 1)), (187, (.invokevirtual 374, 3)), (190, (.goto 12, 3)), (193, (.aload_n 0, 1)), (194, (.iconst 1, 1)), (195, (.aload_n 0, 1)), (196, (.getfield 23, 3)), (199, (.invokevirtual 233, 3)), (202, (.return_, 1))]
theorem dsX12_statement_1_ok : (dsX12_statement_1.all fun q => decide (decode cX12_statement q.1 = .ok q.2)) = true := by decide +kernel
theorem dX12_statement_126 : decode cX12_statement 126 = .ok (.invokevirtual 317, 3) := of_decide_eq_true (List.all_eq_true.mp dsX12_statement_1_ok (126, (.invokevirtual 317, 3)) (List.mem_of_getElem? (i := 0) rfl))
theorem dX12_statement_129 : decode cX12_statement 129 = .ok (.ifCond .eq 10, 3) := of_decide_eq_true (List.all_eq_true.mp dsX12_statement_1_ok (129, (.ifCond .eq 10, 3)) (List.mem_of_getElem? (i := 1) rfl))
theorem dX12_statement_132 : decode cX12_statement 132 = .ok (.aload_n 0, 1) := of_decide_eq_true (List.all_eq_true.mp dsX12_statement_1_ok (132, (.aload_n 0, 1)) (List.mem_of_getElem? (i := 2) rfl))
theorem dX12_statement_133 : decode cX12_statement 133 = .ok (.invokevirtual 371, 3) := of_decide_eq_true (List.all_eq_true.mp dsX12_statement_1_ok (133, (.invokevirtual 371, 3)) (List.mem_of_getElem? (i := 3) rfl))
theorem dX12_statement_136 : decode cX12_statement 136 = .ok (.goto 66, 3) := of_decide_eq_true (List.all_eq_true.mp dsX12_statement_1_ok (136, (.goto 66, 3)) (List.mem_of_getElem? (i := 4) rfl))
theorem dX12_statement_139 : decode cX12_statement 139 = .ok (.aload_n 0, 1) := of_decide_eq_true (List.all_eq_true.mp dsX12_statement_1_ok (139, (.aload_n 0, 1)) (List.mem_of_getElem? (i := 5) rfl))
theorem dX12_statement_140 : decode cX12_statement 140 = .ok (.ldc2_w 273, 3) := of_decide_eq_true (List.all_eq_true.mp dsX12_statement_1_ok (140, (.ldc2_w 273, 3)) (List.mem_of_getElem? (i := 6) rfl))
theorem dX12_statement_143 : decode cX12_statement 143 = .ok (.invokevirtual 317, 3) := of_decide_eq_true (List.all_eq_true.mp dsX12_statement_1_ok (143, (.invokevirtual 317, 3)) (List.mem_of_getElem? (i := 7) rfl))
theorem dX12_statement_146 : decode cX12_statement 146 = .ok (.ifCond .eq 11, 3) := of_decide_eq_true (List.all_eq_true.mp dsX12_statement_1_ok (146, (.ifCond .eq 11, 3)) (List.mem_of_getElem? (i := 8) rfl))
theorem dX12_statement_149 : decode cX12_statement 149 = .ok (.aload_n 0, 1) := of_decide_eq_true (List.all_eq_true.mp dsX12_statement_1_ok (149, (.aload_n 0, 1)) (List.mem_of_getElem? (i := 9) rfl))
theorem dX12_statement_150 : decode cX12_statement 150 = .ok (.iconst 0, 1) := of_decide_eq_true (List.all_eq_true.mp dsX12_statement_1_ok (150, (.iconst 0, 1)) (List.mem_of_getElem? (i := 10) rfl))
theorem dX12_statement_151 : decode cX12_statement 151 = .ok (.invokevirtual 374, 3) := of_decide_eq_true (List.all_eq_true.mp dsX12_statement_1_ok (151, (.invokevirtual 374, 3)) (List.mem_of_getElem? (i := 11) rfl))
theorem dX12_statement_154 : decode cX12_statement 154 = .ok (.goto 48, 3) := of_decide_eq_true (List.all_eq_true.mp dsX12_statement_1_ok (154, (.goto 48, 3)) (List.mem_of_getElem? (i := 12) rfl))
theorem dX12_statement_157 : decode cX12_statement 157 = .ok (.aload_n 0, 1) := of_decide_eq_true (List.all_eq_true.mp dsX12_statement_1_ok (157, (.aload_n 0, 1)) (List.mem_of_getElem? (i := 13) rfl))
theorem dX12_statement_158 : decode cX12_statement 158 = .ok (.ldc2_w 275, 3) := of_decide_eq_true (List.all_eq_true.mp dsX12_statement_1_ok (158, (.ldc2_w 275, 3)) (List.mem_of_getElem? (i := 14) rfl))
theorem dX12_statement_161 : decode cX12_statement 161 = .ok (.invokevirtual 317, 3) := of_decide_eq_true (List.all_eq_true.mp dsX12_statement_1_ok (161, (.invokevirtual 317, 3)) (List.mem_of_getElem? (i := 15) rfl))
theorem dX12_statement_164 : decode cX12_statement 164 = .ok (.ifCond .eq 11, 3) := of_decide_eq_true (List.all_eq_true.mp dsX12_statement_1_ok (164, (.ifCond .eq 11, 3)) (List.mem_of_getElem? (i := 16) rfl))
theorem dX12_statement_167 : decode cX12_statement 167 = .ok (.aload_n 0, 1) := of_decide_eq_true (List.all_eq_true.mp dsX12_statement_1_ok (167, (.aload_n 0, 1)) (List.mem_of_getElem? (i := 17) rfl))
theorem dX12_statement_168 : decode cX12_statement 168 = .ok (.iconst 1, 1) := of_decide_eq_true (List.all_eq_true.mp dsX12_statement_1_ok (168, (.iconst 1, 1)) (List.mem_of_getElem? (i := 18) rfl))
theorem dX12_statement_169 : decode cX12_statement 169 = .ok (.invokevirtual 374, 3) := of_decide_eq_true (List.all_eq_true.mp dsX12_statement_1_ok (169, (.invokevirtual 374, 3)) (List.mem_of_getElem? (i := 19) rfl))
theorem dX12_statement_172 : decode cX12_statement 172 = .ok (.goto 30, 3) := of_decide_eq_true (List.all_eq_true.mp dsX12_statement_1_ok (172, (.goto 30, 3)) (List.mem_of_getElem? (i := 20) rfl))
theorem dX12_statement_175 : decode cX12_statement 175 = .ok (.aload_n 0, 1) := of_decide_eq_true (List.all_eq_true.mp dsX12_statement_1_ok (175, (.aload_n 0, 1)) (List.mem_of_getElem? (i := 21) rfl))
theorem dX12_statement_176 : decode cX12_statement 176 = .ok (.ldc2_w 277, 3) := of_decide_eq_true (List.all_eq_true.mp dsX12_statement_1_ok (176, (.ldc2_w 277, 3)) (List.mem_of_getElem? (i := 22) rfl))
theorem dX12_statement_179 : decode cX12_statement 179 = .ok (.invokevirtual 317, 3) := of_decide_eq_true (List.all_eq_true.mp dsX12_statement_1_ok (179, (.invokevirtual 317, 3)) (List.mem_of_getElem? (i := 23) rfl))
theorem dX12_statement_182 : decode cX12_statement 182 = .ok (.ifCond .eq 11, 3) := of_decide_eq_true (List.all_eq_true.mp dsX12_statement_1_ok (182, (.ifCond .eq 11, 3)) (List.mem_of_getElem? (i := 24) rfl))
theorem dX12_statement_185 : decode cX12_statement 185 = .ok (.aload_n 0, 1) := of_decide_eq_true (List.all_eq_true.mp dsX12_statement_1_ok (185, (.aload_n 0, 1)) (List.mem_of_getElem? (i := 25) rfl))
theorem dX12_statement_186 : decode cX12_statement 186 = .ok (.iconst 2, 1) := of_decide_eq_true (List.all_eq_true.mp dsX12_statement_1_ok (186, (.iconst 2, 1)) (List.mem_of_getElem? (i := 26) rfl))
theorem dX12_statement_187 : decode cX12_statement 187 = .ok (.invokevirtual 374, 3) := of_decide_eq_true (List.all_eq_true.mp dsX12_statement_1_ok (187, (.invokevirtual 374, 3)) (List.mem_of_getElem? (i := 27) rfl))
theorem dX12_statement_190 : decode cX12_statement 190 = .ok (.goto 12, 3) := of_decide_eq_true (List.all_eq_true.mp dsX12_statement_1_ok (190, (.goto 12, 3)) (List.mem_of_getElem? (i := 28) rfl))
theorem dX12_statement_193 : decode cX12_statement 193 = .ok (.aload_n 0, 1) := of_decide_eq_true (List.all_eq_true.mp dsX12_statement_1_ok (193, (.aload_n 0, 1)) (List.mem_of_getElem? (i := 29) rfl))
theorem dX12_statement_194 : decode cX12_statement 194 = .ok (.iconst 1, 1) := of_decide_eq_true (List.all_eq_true.mp dsX12_statement_1_ok (194, (.iconst 1, 1)) (List.mem_of_getElem? (i := 30) rfl))
theorem dX12_statement_195 : decode cX12_statement 195 = .ok (.aload_n 0, 1) := of_decide_eq_true (List.all_eq_true.mp dsX12_statement_1_ok (195, (.aload_n 0, 1)) (List.mem_of_getElem? (i := 31) rfl))
theorem dX12_statement_196 : decode cX12_statement 196 = .ok (.getfield 23, 3) := of_decide_eq_true (List.all_eq_true.mp dsX12_statement_1_ok (196, (.getfield 23, 3)) (List.mem_of_getElem? (i := 32) rfl))
theorem dX12_statement_199 : decode cX12_statement 199 = .ok (.invokevirtual 233, 3) := of_decide_eq_true (List.all_eq_true.mp dsX12_statement_1_ok (199, (.invokevirtual 233, 3)) (List.mem_of_getElem? (i := 33) rfl))
theorem dX12_statement_202 : decode cX12_statement 202 = .ok (.return_, 1) := of_decide_eq_true (List.all_eq_true.mp dsX12_statement_1_ok (202, (.return_, 1)) (List.mem_of_getElem? (i := 34) rfl))
def fX12_statement (N : Nat) (mmI : Nat → Int32) (mmJ : Nat → Int64) (mm_sumFromF : Nat → Int32) (mm_tapeF : Nat → Int32) (mm_frameF : Nat → Int32) (mm_phaseF : Nat → Int32) (mm_beginsF : Nat → Int32) (mm_baseF : Nat → Int32) (mm_opsF : Nat → Int32) (mm_codeSortF : Nat → Int32) (mm_codeValueF : Nat → Int32) (mm_pairF : Nat → Int32) (mm_sumBehindF : Nat → Int32) (mm_placesF : Nat → Int32) (mm_earsF : Nat → Int32) (mm_earNameL : Nat → Int64) (mm_placeNameL : Nat → Int64) (mm_milesToldF : Nat → Int32) (mm_placeAtF : Nat → Int32) (mm_talkToldF : Nat → Int32) (mm_rowToldF : Nat → Int32) (mm_sharpOfF : Nat → Int32) (mm_coughToldF : Nat → Int32) (mm_hushToldF : Nat → Int32) (mm_voiceToldF : Nat → Int32)   : Option ((Nat → Int32) × (Nat → Int64) × (Nat → Int32) × (Nat → Int32) × (Nat → Int32) × (Nat → Int32) × (Nat → Int32) × (Nat → Int32) × (Nat → Int32) × (Nat → Int32) × (Nat → Int32) × (Nat → Int32) × (Nat → Int32) × (Nat → Int32) × (Nat → Int64) × (Nat → Int64) × (Nat → Int32) × (Nat → Int32) × (Nat → Int32) × (Nat → Int32) × (Nat → Int32) × (Nat → Int32) × (Nat → Int32)) :=
  (xq_bd (fX12_lex N mmI) fun r_1 => (if (r_1 8) ≤ 0 then (xq_bd (fX12_isWord N r_1 mmJ 508675318629) fun r_3 => (if r_3 = 0 then (xq_bd (fX12_isWord N r_1 mmJ 1752527720) fun r_5 => (if r_5 = 0 then (xq_bd (fX12_isWord N r_1 mmJ 427071727464) fun r_7 => (if r_7 = 0 then (xq_bd (fX12_isWord N r_1 mmJ 6644082) fun r_9 => (if r_9 = 0 then (xq_bd (fX12_isWord N r_1 mmJ 482854658917) fun r_11 => (if r_11 = 0 then (xq_bd (fX12_isWord N r_1 mmJ 1735353715) fun r_13 => (if r_13 = 0 then (xq_bd (fX12_isWord N r_1 mmJ 448377483891) fun r_15 => (if r_15 = 0 then (xq_bd (fX12_isWord N r_1 mmJ 499850701683) fun r_17 => (if r_17 = 0 then (xq_bd (fX12_blame N r_1 1 (r_1 4)) fun r_19 => some ((r_19, mmJ, mm_sumFromF, mm_frameF, mm_phaseF, mm_beginsF, mm_baseF, mm_opsF, mm_codeSortF, mm_codeValueF, mm_pairF, mm_sumBehindF, mm_placesF, mm_earsF, mm_earNameL, mm_placeNameL, mm_placeAtF, mm_talkToldF, mm_rowToldF, mm_sharpOfF, mm_coughToldF, mm_hushToldF, mm_voiceToldF))) else (xq_bd (fX12_reading N r_1 mmJ mm_sumFromF mm_tapeF mm_frameF mm_phaseF mm_beginsF mm_baseF mm_opsF mm_codeSortF mm_codeValueF mm_pairF mm_sumBehindF 2) fun (r_21_0, r_21_1, r_21_2, r_21_3, r_21_4, r_21_5, r_21_6, r_21_7, r_21_8, r_21_9, r_21_10, r_21_11) => some ((r_21_0, r_21_1, r_21_2, r_21_3, r_21_4, r_21_5, r_21_6, r_21_7, r_21_8, r_21_9, r_21_10, r_21_11, mm_placesF, mm_earsF, mm_earNameL, mm_placeNameL, mm_placeAtF, mm_talkToldF, mm_rowToldF, mm_sharpOfF, mm_coughToldF, mm_hushToldF, mm_voiceToldF))))) else (xq_bd (fX12_reading N r_1 mmJ mm_sumFromF mm_tapeF mm_frameF mm_phaseF mm_beginsF mm_baseF mm_opsF mm_codeSortF mm_codeValueF mm_pairF mm_sumBehindF 1) fun (r_23_0, r_23_1, r_23_2, r_23_3, r_23_4, r_23_5, r_23_6, r_23_7, r_23_8, r_23_9, r_23_10, r_23_11) => some ((r_23_0, r_23_1, r_23_2, r_23_3, r_23_4, r_23_5, r_23_6, r_23_7, r_23_8, r_23_9, r_23_10, r_23_11, mm_placesF, mm_earsF, mm_earNameL, mm_placeNameL, mm_placeAtF, mm_talkToldF, mm_rowToldF, mm_sharpOfF, mm_coughToldF, mm_hushToldF, mm_voiceToldF))))) else (xq_bd (fX12_reading N r_1 mmJ mm_sumFromF mm_tapeF mm_frameF mm_phaseF mm_beginsF mm_baseF mm_opsF mm_codeSortF mm_codeValueF mm_pairF mm_sumBehindF 0) fun (r_25_0, r_25_1, r_25_2, r_25_3, r_25_4, r_25_5, r_25_6, r_25_7, r_25_8, r_25_9, r_25_10, r_25_11) => some ((r_25_0, r_25_1, r_25_2, r_25_3, r_25_4, r_25_5, r_25_6, r_25_7, r_25_8, r_25_9, r_25_10, r_25_11, mm_placesF, mm_earsF, mm_earNameL, mm_placeNameL, mm_placeAtF, mm_talkToldF, mm_rowToldF, mm_sharpOfF, mm_coughToldF, mm_hushToldF, mm_voiceToldF))))) else (xq_bd (fX12_placing N r_1 mmJ mm_placesF mm_tapeF mm_earsF mm_earNameL mm_placeNameL mm_milesToldF mm_placeAtF mm_talkToldF) fun (r_27_0, r_27_1, r_27_2, r_27_3, r_27_4, r_27_5) => some ((r_27_0, r_27_1, mm_sumFromF, mm_frameF, mm_phaseF, mm_beginsF, mm_baseF, mm_opsF, mm_codeSortF, mm_codeValueF, mm_pairF, mm_sumBehindF, r_27_2, mm_earsF, mm_earNameL, r_27_3, r_27_4, r_27_5, mm_rowToldF, mm_sharpOfF, mm_coughToldF, mm_hushToldF, mm_voiceToldF))))) else (xq_bd (fX12_earing N r_1 mmJ mm_earsF mm_tapeF mm_earNameL mm_placesF mm_placeNameL mm_rowToldF mm_sharpOfF) fun (r_29_0, r_29_1, r_29_2, r_29_3, r_29_4, r_29_5) => some ((r_29_0, r_29_1, mm_sumFromF, mm_frameF, mm_phaseF, mm_beginsF, mm_baseF, mm_opsF, mm_codeSortF, mm_codeValueF, mm_pairF, mm_sumBehindF, mm_placesF, r_29_2, r_29_3, mm_placeNameL, mm_placeAtF, mm_talkToldF, r_29_4, r_29_5, mm_coughToldF, mm_hushToldF, mm_voiceToldF))))) else (xq_bd (fX12_telling N r_1 mmJ mm_tapeF 100) fun (r_31_0, r_31_1, r_31_2) => (xq_bd (xq_ast 2 mm_coughToldF (r_1 31) r_31_0) fun g_33 => some ((r_31_1, r_31_2, mm_sumFromF, mm_frameF, mm_phaseF, mm_beginsF, mm_baseF, mm_opsF, mm_codeSortF, mm_codeValueF, mm_pairF, mm_sumBehindF, mm_placesF, mm_earsF, mm_earNameL, mm_placeNameL, mm_placeAtF, mm_talkToldF, mm_rowToldF, mm_sharpOfF, g_33, mm_hushToldF, mm_voiceToldF)))))) else (xq_bd (fX12_telling N r_1 mmJ mm_tapeF 9) fun (r_34_0, r_34_1, r_34_2) => (xq_bd (xq_ast 2 mm_hushToldF (r_1 31) r_34_0) fun g_36 => some ((r_34_1, r_34_2, mm_sumFromF, mm_frameF, mm_phaseF, mm_beginsF, mm_baseF, mm_opsF, mm_codeSortF, mm_codeValueF, mm_pairF, mm_sumBehindF, mm_placesF, mm_earsF, mm_earNameL, mm_placeNameL, mm_placeAtF, mm_talkToldF, mm_rowToldF, mm_sharpOfF, mm_coughToldF, g_36, mm_voiceToldF)))))) else (xq_bd (xq_ald 2 mm_milesToldF (r_1 31)) fun v_37 => (xq_bd (fX12_telling N r_1 mmJ mm_tapeF (v_37 - 1)) fun (r_38_0, r_38_1, r_38_2) => (xq_bd (xq_ast 2 mm_voiceToldF (r_1 31) r_38_0) fun g_40 => some ((r_38_1, r_38_2, mm_sumFromF, mm_frameF, mm_phaseF, mm_beginsF, mm_baseF, mm_opsF, mm_codeSortF, mm_codeValueF, mm_pairF, mm_sumBehindF, mm_placesF, mm_earsF, mm_earNameL, mm_placeNameL, mm_placeAtF, mm_talkToldF, mm_rowToldF, mm_sharpOfF, mm_coughToldF, mm_hushToldF, g_40))))))) else some ((r_1, mmJ, mm_sumFromF, mm_frameF, mm_phaseF, mm_beginsF, mm_baseF, mm_opsF, mm_codeSortF, mm_codeValueF, mm_pairF, mm_sumBehindF, mm_placesF, mm_earsF, mm_earNameL, mm_placeNameL, mm_placeAtF, mm_talkToldF, mm_rowToldF, mm_sharpOfF, mm_coughToldF, mm_hushToldF, mm_voiceToldF))))
set_option maxHeartbeats 4000000 in
set_option maxRecDepth 100000 in
theorem kX12_statement (l : Launch) (dC : Nat → ClassId) (dI : Nat → Nat → Nat) (cI cB cJ cZ cM : ClassId) (z : Nat) (ad : Nat → Nat) (N : Nat) (a_p0 : Nat) (mmI : Nat → Int32) (mmJ : Nat → Int64) (mmR : Nat → Nat) (mm_sumFromF : Nat → Int32) (mm_tapeF : Nat → Int32) (mm_frameF : Nat → Int32) (mm_phaseF : Nat → Int32) (mm_beginsF : Nat → Int32) (mm_baseF : Nat → Int32) (mm_opsF : Nat → Int32) (mm_codeSortF : Nat → Int32) (mm_codeValueF : Nat → Int32) (mm_pairF : Nat → Int32) (mm_sumBehindF : Nat → Int32) (mm_placesF : Nat → Int32) (mm_earsF : Nat → Int32) (mm_earNameL : Nat → Int64) (mm_placeNameL : Nat → Int64) (mm_milesToldF : Nat → Int32) (mm_placeAtF : Nat → Int32) (mm_talkToldF : Nat → Int32) (mm_rowToldF : Nat → Int32) (mm_sharpOfF : Nat → Int32) (mm_coughToldF : Nat → Int32) (mm_hushToldF : Nat → Int32) (mm_voiceToldF : Nat → Int32) {r0 : Nat → Int32} {r1 : Nat → Int64} {r2 : Nat → Int32} {r3 : Nat → Int32} {r4 : Nat → Int32} {r5 : Nat → Int32} {r6 : Nat → Int32} {r7 : Nat → Int32} {r8 : Nat → Int32} {r9 : Nat → Int32} {r10 : Nat → Int32} {r11 : Nat → Int32} {r12 : Nat → Int32} {r13 : Nat → Int32} {r14 : Nat → Int64} {r15 : Nat → Int64} {r16 : Nat → Int32} {r17 : Nat → Int32} {r18 : Nat → Int32} {r19 : Nat → Int32} {r20 : Nat → Int32} {r21 : Nat → Int32} {r22 : Nat → Int32} (hf : fX12_statement N mmI mmJ mm_sumFromF mm_tapeF mm_frameF mm_phaseF mm_beginsF mm_baseF mm_opsF mm_codeSortF mm_codeValueF mm_pairF mm_sumBehindF mm_placesF mm_earsF mm_earNameL mm_placeNameL mm_milesToldF mm_placeAtF mm_talkToldF mm_rowToldF mm_sharpOfF mm_coughToldF mm_hushToldF mm_voiceToldF = some (r0, r1, r2, r3, r4, r5, r6, r7, r8, r9, r10, r11, r12, r13, r14, r15, r16, r17, r18, r19, r20, r21, r22)) : xq_Ct l yX12_statement wsX12_statement { frames := 6, cells := 0, slots := 0, locals := 133 } (dC, dI) vwCl (xq_tys cI cB cJ cZ cM) z ad [.ref a_p0] [(a_p0, .inr (12, oX12 mmI mmJ mmR)), ((mmR 24), .inl (cI, 6, .inl mm_sumFromF)), ((mmR 0), .inl (cI, 1800, .inl mm_tapeF)), ((mmR 33), .inl (cI, 20, .inl mm_frameF)), ((mmR 34), .inl (cI, 20, .inl mm_phaseF)), ((mmR 35), .inl (cZ, 20, .inl mm_beginsF)), ((mmR 37), .inl (cI, 20, .inl mm_baseF)), ((mmR 40), .inl (cI, 500, .inl mm_opsF)), ((mmR 26), .inl (cI, 3200, .inl mm_codeSortF)), ((mmR 27), .inl (cI, 3200, .inl mm_codeValueF)), ((mmR 36), .inl (cI, 20, .inl mm_pairF)), ((mmR 25), .inl (cI, 6, .inl mm_sumBehindF)), ((mmR 21), .inl (cI, 2, .inl mm_placesF)), ((mmR 18), .inl (cI, 2, .inl mm_earsF)), ((mmR 28), .inl (cJ, 14, .inr (.inl mm_earNameL))), ((mmR 29), .inl (cJ, 12, .inr (.inl mm_placeNameL))), ((mmR 14), .inl (cI, 2, .inl mm_milesToldF)), ((mmR 22), .inl (cI, 12, .inl mm_placeAtF)), ((mmR 23), .inl (cI, 12, .inl mm_talkToldF)), ((mmR 19), .inl (cI, 14, .inl mm_rowToldF)), ((mmR 20), .inl (cI, 14, .inl mm_sharpOfF)), ((mmR 17), .inl (cI, 2, .inl mm_coughToldF)), ((mmR 16), .inl (cI, 2, .inl mm_hushToldF)), ((mmR 15), .inl (cI, 2, .inl mm_voiceToldF))] [(a_p0, .inr (12, oX12 r0 r1 mmR)), ((mmR 24), .inl (cI, 6, .inl r2)), ((mmR 0), .inl (cI, 1800, .inl mm_tapeF)), ((mmR 33), .inl (cI, 20, .inl r3)), ((mmR 34), .inl (cI, 20, .inl r4)), ((mmR 35), .inl (cZ, 20, .inl r5)), ((mmR 37), .inl (cI, 20, .inl r6)), ((mmR 40), .inl (cI, 500, .inl r7)), ((mmR 26), .inl (cI, 3200, .inl r8)), ((mmR 27), .inl (cI, 3200, .inl r9)), ((mmR 36), .inl (cI, 20, .inl r10)), ((mmR 25), .inl (cI, 6, .inl r11)), ((mmR 21), .inl (cI, 2, .inl r12)), ((mmR 18), .inl (cI, 2, .inl r13)), ((mmR 28), .inl (cJ, 14, .inr (.inl r14))), ((mmR 29), .inl (cJ, 12, .inr (.inl r15))), ((mmR 14), .inl (cI, 2, .inl mm_milesToldF)), ((mmR 22), .inl (cI, 12, .inl r16)), ((mmR 23), .inl (cI, 12, .inl r17)), ((mmR 19), .inl (cI, 14, .inl r18)), ((mmR 20), .inl (cI, 14, .inl r19)), ((mmR 17), .inl (cI, 2, .inl r20)), ((mmR 16), .inl (cI, 2, .inl r21)), ((mmR 15), .inl (cI, 2, .inl r22))] none := by
  intro sz
  refine Met.ofW (cc := cX12_statement) (maxL := 1) (ret := none) (by decide) rfl ?_
  intro p e s m args below meth c s₁ B hml hv
  obtain ⟨rfl, hsz, hP, hK, hD0, hE, hz⟩ := hv
  have hx := B.exec
  have hb := B.bytes
  have hr := B.returns
  have hts := atoms_spec (ws := wsX12_statement) B.pre
  have hown : s.vm.findClass RX12 = some m.cls := findClass_of_methodNamed B.named
  have hlocks := B.notSynchronized
  subst hsz
  have hD := hD0.self (sz := s.heap.size)
  have hN := xq_Env.of hE hz hD0
  generalize hAe : va_A [(a_p0, .inr (12, oX12 mmI mmJ mmR)), ((mmR 24), .inl (cI, 6, .inl mm_sumFromF)), ((mmR 0), .inl (cI, 1800, .inl mm_tapeF)), ((mmR 33), .inl (cI, 20, .inl mm_frameF)), ((mmR 34), .inl (cI, 20, .inl mm_phaseF)), ((mmR 35), .inl (cZ, 20, .inl mm_beginsF)), ((mmR 37), .inl (cI, 20, .inl mm_baseF)), ((mmR 40), .inl (cI, 500, .inl mm_opsF)), ((mmR 26), .inl (cI, 3200, .inl mm_codeSortF)), ((mmR 27), .inl (cI, 3200, .inl mm_codeValueF)), ((mmR 36), .inl (cI, 20, .inl mm_pairF)), ((mmR 25), .inl (cI, 6, .inl mm_sumBehindF)), ((mmR 21), .inl (cI, 2, .inl mm_placesF)), ((mmR 18), .inl (cI, 2, .inl mm_earsF)), ((mmR 28), .inl (cJ, 14, .inr (.inl mm_earNameL))), ((mmR 29), .inl (cJ, 12, .inr (.inl mm_placeNameL))), ((mmR 14), .inl (cI, 2, .inl mm_milesToldF)), ((mmR 22), .inl (cI, 12, .inl mm_placeAtF)), ((mmR 23), .inl (cI, 12, .inl mm_talkToldF)), ((mmR 19), .inl (cI, 14, .inl mm_rowToldF)), ((mmR 20), .inl (cI, 14, .inl mm_sharpOfF)), ((mmR 17), .inl (cI, 2, .inl mm_coughToldF)), ((mmR 16), .inl (cI, 2, .inl mm_hushToldF)), ((mmR 15), .inl (cI, 2, .inl mm_voiceToldF))] s.heap.size = A at hD hN ⊢
  have hA : ∀ q : Nat, s.heap.size ≤ q → A q := fun q h => by rw [← hAe]; exact Or.inr h
  clear hAe hD0
  have hS : va_S A s.heap s.heap [] := va_S.rf
  have hl := lv_entry ([.ref a_p0]) (n := 1) (Nat.le_of_ble_eq_true rfl)
  rw [lg_entry_eq]
  generalize (lg_sl ([.ref a_p0]) ++ List.replicate (1 - (lg_sl ([.ref a_p0])).length) Slot.unset).toArray = ls at hl ⊢
  have hl : lv_has ls 1 [(0, .ref a_p0)] := hl
  have hw0 := hts (.fieldLink RX12 36 "DistantVoiceModel" "faultKind" "I") (by decide +kernel)
  have hinX12 : ∀ w ∈ wsX120, w ∈ wsX12_statement := fun w h => List.mem_cons_of_mem _ (List.mem_append_right _ h)
  have hw2 := hts (.constantLong RX12 255 (508675318629)) (by decide +kernel)
  have hw3 := hts (.constantLong RX12 257 (1752527720)) (by decide +kernel)
  have hw4 := hts (.constantLong RX12 259 (427071727464)) (by decide +kernel)
  have hw5 := hts (.constantLong RX12 261 (6644082)) (by decide +kernel)
  have hw6 := hts (.constantLong RX12 267 (482854658917)) (by decide +kernel)
  have hw7 := hts (.constantLong RX12 273 (1735353715)) (by decide +kernel)
  have hw8 := hts (.constantLong RX12 275 (448377483891)) (by decide +kernel)
  have hw9 := hts (.constantLong RX12 277 (499850701683)) (by decide +kernel)
  have hw10 := hts (.fieldLink RX12 23 "DistantVoiceModel" "signAt" "I") (by decide +kernel)
  have hw11 := hts (.fieldLink RX12 63 "DistantVoiceModel" "coughTold" "[I") (by decide +kernel)
  have hw12 := hts (.fieldLink RX12 106 "DistantVoiceModel" "in" "I") (by decide +kernel)
  have hw13 := hts (.fieldLink RX12 60 "DistantVoiceModel" "hushTold" "[I") (by decide +kernel)
  have hw14 := hts (.fieldLink RX12 57 "DistantVoiceModel" "voiceTold" "[I") (by decide +kernel)
  have hw15 := hts (.fieldLink RX12 54 "DistantVoiceModel" "milesTold" "[I") (by decide +kernel)
  unfold fX12_statement at hf
  refine lv_aload_n hx hb dX12_statement_0 rfl (lv_at hl 0 rfl) ?_
  obtain ⟨r_1, h_2, hf⟩ := xq_bd_some hf
  refine xq_callV (As := []) (rest := []) (ci := 12) (q0 := 0) ⟨hx, hb, hml, hown, hts⟩ (kX12_lex l dC dI cI cB cJ cZ cM z ad N a_p0 mmI mmJ mmR h_2) (cwV 0 hts gX12_statement_X12_lex rfl rfl rfl (by decide +kernel) ⟨Nat.le_of_ble_eq_true rfl, Nat.le_of_ble_eq_true rfl⟩) hN hK hP hD hS hA [0] (by decide) rfl rfl rfl rfl rfl rfl hl.1 rfl (Nat.le_of_ble_eq_true rfl) dX12_statement_1 ⟨Nat.zero_le _, Nat.zero_le _⟩ (fun H locs hP hD hS => ?_)
  have hP : va_P (dC, dI) vwCl [(a_p0, .inr (12, oX12 r_1 mmJ mmR)), ((mmR 24), .inl (cI, 6, .inl mm_sumFromF)), ((mmR 0), .inl (cI, 1800, .inl mm_tapeF)), ((mmR 33), .inl (cI, 20, .inl mm_frameF)), ((mmR 34), .inl (cI, 20, .inl mm_phaseF)), ((mmR 35), .inl (cZ, 20, .inl mm_beginsF)), ((mmR 37), .inl (cI, 20, .inl mm_baseF)), ((mmR 40), .inl (cI, 500, .inl mm_opsF)), ((mmR 26), .inl (cI, 3200, .inl mm_codeSortF)), ((mmR 27), .inl (cI, 3200, .inl mm_codeValueF)), ((mmR 36), .inl (cI, 20, .inl mm_pairF)), ((mmR 25), .inl (cI, 6, .inl mm_sumBehindF)), ((mmR 21), .inl (cI, 2, .inl mm_placesF)), ((mmR 18), .inl (cI, 2, .inl mm_earsF)), ((mmR 28), .inl (cJ, 14, .inr (.inl mm_earNameL))), ((mmR 29), .inl (cJ, 12, .inr (.inl mm_placeNameL))), ((mmR 14), .inl (cI, 2, .inl mm_milesToldF)), ((mmR 22), .inl (cI, 12, .inl mm_placeAtF)), ((mmR 23), .inl (cI, 12, .inl mm_talkToldF)), ((mmR 19), .inl (cI, 14, .inl mm_rowToldF)), ((mmR 20), .inl (cI, 14, .inl mm_sharpOfF)), ((mmR 17), .inl (cI, 2, .inl mm_coughToldF)), ((mmR 16), .inl (cI, 2, .inl mm_hushToldF)), ((mmR 15), .inl (cI, 2, .inl mm_voiceToldF))] H := hP
  have hD : va_D A [(a_p0, .inr (12, oX12 r_1 mmJ mmR)), ((mmR 24), .inl (cI, 6, .inl mm_sumFromF)), ((mmR 0), .inl (cI, 1800, .inl mm_tapeF)), ((mmR 33), .inl (cI, 20, .inl mm_frameF)), ((mmR 34), .inl (cI, 20, .inl mm_phaseF)), ((mmR 35), .inl (cZ, 20, .inl mm_beginsF)), ((mmR 37), .inl (cI, 20, .inl mm_baseF)), ((mmR 40), .inl (cI, 500, .inl mm_opsF)), ((mmR 26), .inl (cI, 3200, .inl mm_codeSortF)), ((mmR 27), .inl (cI, 3200, .inl mm_codeValueF)), ((mmR 36), .inl (cI, 20, .inl mm_pairF)), ((mmR 25), .inl (cI, 6, .inl mm_sumBehindF)), ((mmR 21), .inl (cI, 2, .inl mm_placesF)), ((mmR 18), .inl (cI, 2, .inl mm_earsF)), ((mmR 28), .inl (cJ, 14, .inr (.inl mm_earNameL))), ((mmR 29), .inl (cJ, 12, .inr (.inl mm_placeNameL))), ((mmR 14), .inl (cI, 2, .inl mm_milesToldF)), ((mmR 22), .inl (cI, 12, .inl mm_placeAtF)), ((mmR 23), .inl (cI, 12, .inl mm_talkToldF)), ((mmR 19), .inl (cI, 14, .inl mm_rowToldF)), ((mmR 20), .inl (cI, 14, .inl mm_sharpOfF)), ((mmR 17), .inl (cI, 2, .inl mm_coughToldF)), ((mmR 16), .inl (cI, 2, .inl mm_hushToldF)), ((mmR 15), .inl (cI, 2, .inl mm_voiceToldF))] := hD
  refine W.eq (g2 := F0 m 4 ls []) rfl ?_
  refine lv_aload_n hx hb dX12_statement_4 rfl (lv_at hl 0 rfl) ?_
  refine va_get (D := (dC, dI)) (ci := 12) (v := .int (r_1 8)) (C := RX12) (T := TX12) (N := 70) hx hb hts hinX12 hown hK hP 0 rfl rfl 8 (by decide) hw0 (fun _ h9 => h9) rfl dX12_statement_5 ?_
  refine lv_if_le (tgt := 12) hx hb dX12_statement_8 (by decide) (fun c_ => ?_) (fun c_ => ?_)
  · have hf := xq_pos hf c_
    refine lv_aload_n hx hb dX12_statement_12 rfl (lv_at hl 0 rfl) ?_
    refine lv_ldc2 (v := 508675318629) hx hb hown hw2 dX12_statement_13 ?_
    obtain ⟨r_3, h_4, hf⟩ := xq_bd_some hf
    refine xq_callV (As := [.long 508675318629]) (rest := []) (ci := 12) (q0 := 0) ⟨hx, hb, hml, hown, hts⟩ (kX12_isWord l dC dI cI cB cJ cZ cM z ad N a_p0 r_1 mmJ mmR 508675318629 h_4) (cwV 1 hts gX12_statement_X12_isWord rfl rfl rfl (by decide +kernel) ⟨Nat.le_of_ble_eq_true rfl, Nat.le_of_ble_eq_true rfl⟩) hN hK hP hD hS hA [0] (by decide) rfl rfl rfl rfl rfl rfl hl.1 rfl (Nat.le_of_ble_eq_true rfl) dX12_statement_16 ⟨Nat.zero_le _, Nat.zero_le _⟩ (fun H locs hP hD hS => ?_)
    have hP : va_P (dC, dI) vwCl [(a_p0, .inr (12, oX12 r_1 mmJ mmR)), ((mmR 24), .inl (cI, 6, .inl mm_sumFromF)), ((mmR 0), .inl (cI, 1800, .inl mm_tapeF)), ((mmR 33), .inl (cI, 20, .inl mm_frameF)), ((mmR 34), .inl (cI, 20, .inl mm_phaseF)), ((mmR 35), .inl (cZ, 20, .inl mm_beginsF)), ((mmR 37), .inl (cI, 20, .inl mm_baseF)), ((mmR 40), .inl (cI, 500, .inl mm_opsF)), ((mmR 26), .inl (cI, 3200, .inl mm_codeSortF)), ((mmR 27), .inl (cI, 3200, .inl mm_codeValueF)), ((mmR 36), .inl (cI, 20, .inl mm_pairF)), ((mmR 25), .inl (cI, 6, .inl mm_sumBehindF)), ((mmR 21), .inl (cI, 2, .inl mm_placesF)), ((mmR 18), .inl (cI, 2, .inl mm_earsF)), ((mmR 28), .inl (cJ, 14, .inr (.inl mm_earNameL))), ((mmR 29), .inl (cJ, 12, .inr (.inl mm_placeNameL))), ((mmR 14), .inl (cI, 2, .inl mm_milesToldF)), ((mmR 22), .inl (cI, 12, .inl mm_placeAtF)), ((mmR 23), .inl (cI, 12, .inl mm_talkToldF)), ((mmR 19), .inl (cI, 14, .inl mm_rowToldF)), ((mmR 20), .inl (cI, 14, .inl mm_sharpOfF)), ((mmR 17), .inl (cI, 2, .inl mm_coughToldF)), ((mmR 16), .inl (cI, 2, .inl mm_hushToldF)), ((mmR 15), .inl (cI, 2, .inl mm_voiceToldF))] H := hP
    have hD : va_D A [(a_p0, .inr (12, oX12 r_1 mmJ mmR)), ((mmR 24), .inl (cI, 6, .inl mm_sumFromF)), ((mmR 0), .inl (cI, 1800, .inl mm_tapeF)), ((mmR 33), .inl (cI, 20, .inl mm_frameF)), ((mmR 34), .inl (cI, 20, .inl mm_phaseF)), ((mmR 35), .inl (cZ, 20, .inl mm_beginsF)), ((mmR 37), .inl (cI, 20, .inl mm_baseF)), ((mmR 40), .inl (cI, 500, .inl mm_opsF)), ((mmR 26), .inl (cI, 3200, .inl mm_codeSortF)), ((mmR 27), .inl (cI, 3200, .inl mm_codeValueF)), ((mmR 36), .inl (cI, 20, .inl mm_pairF)), ((mmR 25), .inl (cI, 6, .inl mm_sumBehindF)), ((mmR 21), .inl (cI, 2, .inl mm_placesF)), ((mmR 18), .inl (cI, 2, .inl mm_earsF)), ((mmR 28), .inl (cJ, 14, .inr (.inl mm_earNameL))), ((mmR 29), .inl (cJ, 12, .inr (.inl mm_placeNameL))), ((mmR 14), .inl (cI, 2, .inl mm_milesToldF)), ((mmR 22), .inl (cI, 12, .inl mm_placeAtF)), ((mmR 23), .inl (cI, 12, .inl mm_talkToldF)), ((mmR 19), .inl (cI, 14, .inl mm_rowToldF)), ((mmR 20), .inl (cI, 14, .inl mm_sharpOfF)), ((mmR 17), .inl (cI, 2, .inl mm_coughToldF)), ((mmR 16), .inl (cI, 2, .inl mm_hushToldF)), ((mmR 15), .inl (cI, 2, .inl mm_voiceToldF))] := hD
    refine W.eq (g2 := F0 m 19 ls [.int r_3]) rfl ?_
    refine lv_if_eq (tgt := 49) hx hb dX12_statement_19 (by decide) (fun c_ => ?_) (fun c_ => ?_)
    · have hf := xq_pos hf c_
      refine lv_aload_n hx hb dX12_statement_49 rfl (lv_at hl 0 rfl) ?_
      refine lv_ldc2 (v := 1752527720) hx hb hown hw3 dX12_statement_50 ?_
      obtain ⟨r_5, h_6, hf⟩ := xq_bd_some hf
      refine xq_callV (As := [.long 1752527720]) (rest := []) (ci := 12) (q0 := 0) ⟨hx, hb, hml, hown, hts⟩ (kX12_isWord l dC dI cI cB cJ cZ cM z ad N a_p0 r_1 mmJ mmR 1752527720 h_6) (cwV 1 hts gX12_statement_X12_isWord rfl rfl rfl (by decide +kernel) ⟨Nat.le_of_ble_eq_true rfl, Nat.le_of_ble_eq_true rfl⟩) hN hK hP hD hS hA [0] (by decide) rfl rfl rfl rfl rfl rfl hl.1 rfl (Nat.le_of_ble_eq_true rfl) dX12_statement_53 ⟨Nat.zero_le _, Nat.zero_le _⟩ (fun H locs hP hD hS => ?_)
      have hP : va_P (dC, dI) vwCl [(a_p0, .inr (12, oX12 r_1 mmJ mmR)), ((mmR 24), .inl (cI, 6, .inl mm_sumFromF)), ((mmR 0), .inl (cI, 1800, .inl mm_tapeF)), ((mmR 33), .inl (cI, 20, .inl mm_frameF)), ((mmR 34), .inl (cI, 20, .inl mm_phaseF)), ((mmR 35), .inl (cZ, 20, .inl mm_beginsF)), ((mmR 37), .inl (cI, 20, .inl mm_baseF)), ((mmR 40), .inl (cI, 500, .inl mm_opsF)), ((mmR 26), .inl (cI, 3200, .inl mm_codeSortF)), ((mmR 27), .inl (cI, 3200, .inl mm_codeValueF)), ((mmR 36), .inl (cI, 20, .inl mm_pairF)), ((mmR 25), .inl (cI, 6, .inl mm_sumBehindF)), ((mmR 21), .inl (cI, 2, .inl mm_placesF)), ((mmR 18), .inl (cI, 2, .inl mm_earsF)), ((mmR 28), .inl (cJ, 14, .inr (.inl mm_earNameL))), ((mmR 29), .inl (cJ, 12, .inr (.inl mm_placeNameL))), ((mmR 14), .inl (cI, 2, .inl mm_milesToldF)), ((mmR 22), .inl (cI, 12, .inl mm_placeAtF)), ((mmR 23), .inl (cI, 12, .inl mm_talkToldF)), ((mmR 19), .inl (cI, 14, .inl mm_rowToldF)), ((mmR 20), .inl (cI, 14, .inl mm_sharpOfF)), ((mmR 17), .inl (cI, 2, .inl mm_coughToldF)), ((mmR 16), .inl (cI, 2, .inl mm_hushToldF)), ((mmR 15), .inl (cI, 2, .inl mm_voiceToldF))] H := hP
      have hD : va_D A [(a_p0, .inr (12, oX12 r_1 mmJ mmR)), ((mmR 24), .inl (cI, 6, .inl mm_sumFromF)), ((mmR 0), .inl (cI, 1800, .inl mm_tapeF)), ((mmR 33), .inl (cI, 20, .inl mm_frameF)), ((mmR 34), .inl (cI, 20, .inl mm_phaseF)), ((mmR 35), .inl (cZ, 20, .inl mm_beginsF)), ((mmR 37), .inl (cI, 20, .inl mm_baseF)), ((mmR 40), .inl (cI, 500, .inl mm_opsF)), ((mmR 26), .inl (cI, 3200, .inl mm_codeSortF)), ((mmR 27), .inl (cI, 3200, .inl mm_codeValueF)), ((mmR 36), .inl (cI, 20, .inl mm_pairF)), ((mmR 25), .inl (cI, 6, .inl mm_sumBehindF)), ((mmR 21), .inl (cI, 2, .inl mm_placesF)), ((mmR 18), .inl (cI, 2, .inl mm_earsF)), ((mmR 28), .inl (cJ, 14, .inr (.inl mm_earNameL))), ((mmR 29), .inl (cJ, 12, .inr (.inl mm_placeNameL))), ((mmR 14), .inl (cI, 2, .inl mm_milesToldF)), ((mmR 22), .inl (cI, 12, .inl mm_placeAtF)), ((mmR 23), .inl (cI, 12, .inl mm_talkToldF)), ((mmR 19), .inl (cI, 14, .inl mm_rowToldF)), ((mmR 20), .inl (cI, 14, .inl mm_sharpOfF)), ((mmR 17), .inl (cI, 2, .inl mm_coughToldF)), ((mmR 16), .inl (cI, 2, .inl mm_hushToldF)), ((mmR 15), .inl (cI, 2, .inl mm_voiceToldF))] := hD
      refine W.eq (g2 := F0 m 56 ls [.int r_5]) rfl ?_
      refine lv_if_eq (tgt := 77) hx hb dX12_statement_56 (by decide) (fun c_ => ?_) (fun c_ => ?_)
      · have hf := xq_pos hf c_
        refine lv_aload_n hx hb dX12_statement_77 rfl (lv_at hl 0 rfl) ?_
        refine lv_ldc2 (v := 427071727464) hx hb hown hw4 dX12_statement_78 ?_
        obtain ⟨r_7, h_8, hf⟩ := xq_bd_some hf
        refine xq_callV (As := [.long 427071727464]) (rest := []) (ci := 12) (q0 := 0) ⟨hx, hb, hml, hown, hts⟩ (kX12_isWord l dC dI cI cB cJ cZ cM z ad N a_p0 r_1 mmJ mmR 427071727464 h_8) (cwV 1 hts gX12_statement_X12_isWord rfl rfl rfl (by decide +kernel) ⟨Nat.le_of_ble_eq_true rfl, Nat.le_of_ble_eq_true rfl⟩) hN hK hP hD hS hA [0] (by decide) rfl rfl rfl rfl rfl rfl hl.1 rfl (Nat.le_of_ble_eq_true rfl) dX12_statement_81 ⟨Nat.zero_le _, Nat.zero_le _⟩ (fun H locs hP hD hS => ?_)
        have hP : va_P (dC, dI) vwCl [(a_p0, .inr (12, oX12 r_1 mmJ mmR)), ((mmR 24), .inl (cI, 6, .inl mm_sumFromF)), ((mmR 0), .inl (cI, 1800, .inl mm_tapeF)), ((mmR 33), .inl (cI, 20, .inl mm_frameF)), ((mmR 34), .inl (cI, 20, .inl mm_phaseF)), ((mmR 35), .inl (cZ, 20, .inl mm_beginsF)), ((mmR 37), .inl (cI, 20, .inl mm_baseF)), ((mmR 40), .inl (cI, 500, .inl mm_opsF)), ((mmR 26), .inl (cI, 3200, .inl mm_codeSortF)), ((mmR 27), .inl (cI, 3200, .inl mm_codeValueF)), ((mmR 36), .inl (cI, 20, .inl mm_pairF)), ((mmR 25), .inl (cI, 6, .inl mm_sumBehindF)), ((mmR 21), .inl (cI, 2, .inl mm_placesF)), ((mmR 18), .inl (cI, 2, .inl mm_earsF)), ((mmR 28), .inl (cJ, 14, .inr (.inl mm_earNameL))), ((mmR 29), .inl (cJ, 12, .inr (.inl mm_placeNameL))), ((mmR 14), .inl (cI, 2, .inl mm_milesToldF)), ((mmR 22), .inl (cI, 12, .inl mm_placeAtF)), ((mmR 23), .inl (cI, 12, .inl mm_talkToldF)), ((mmR 19), .inl (cI, 14, .inl mm_rowToldF)), ((mmR 20), .inl (cI, 14, .inl mm_sharpOfF)), ((mmR 17), .inl (cI, 2, .inl mm_coughToldF)), ((mmR 16), .inl (cI, 2, .inl mm_hushToldF)), ((mmR 15), .inl (cI, 2, .inl mm_voiceToldF))] H := hP
        have hD : va_D A [(a_p0, .inr (12, oX12 r_1 mmJ mmR)), ((mmR 24), .inl (cI, 6, .inl mm_sumFromF)), ((mmR 0), .inl (cI, 1800, .inl mm_tapeF)), ((mmR 33), .inl (cI, 20, .inl mm_frameF)), ((mmR 34), .inl (cI, 20, .inl mm_phaseF)), ((mmR 35), .inl (cZ, 20, .inl mm_beginsF)), ((mmR 37), .inl (cI, 20, .inl mm_baseF)), ((mmR 40), .inl (cI, 500, .inl mm_opsF)), ((mmR 26), .inl (cI, 3200, .inl mm_codeSortF)), ((mmR 27), .inl (cI, 3200, .inl mm_codeValueF)), ((mmR 36), .inl (cI, 20, .inl mm_pairF)), ((mmR 25), .inl (cI, 6, .inl mm_sumBehindF)), ((mmR 21), .inl (cI, 2, .inl mm_placesF)), ((mmR 18), .inl (cI, 2, .inl mm_earsF)), ((mmR 28), .inl (cJ, 14, .inr (.inl mm_earNameL))), ((mmR 29), .inl (cJ, 12, .inr (.inl mm_placeNameL))), ((mmR 14), .inl (cI, 2, .inl mm_milesToldF)), ((mmR 22), .inl (cI, 12, .inl mm_placeAtF)), ((mmR 23), .inl (cI, 12, .inl mm_talkToldF)), ((mmR 19), .inl (cI, 14, .inl mm_rowToldF)), ((mmR 20), .inl (cI, 14, .inl mm_sharpOfF)), ((mmR 17), .inl (cI, 2, .inl mm_coughToldF)), ((mmR 16), .inl (cI, 2, .inl mm_hushToldF)), ((mmR 15), .inl (cI, 2, .inl mm_voiceToldF))] := hD
        refine W.eq (g2 := F0 m 84 ls [.int r_7]) rfl ?_
        refine lv_if_eq (tgt := 105) hx hb dX12_statement_84 (by decide) (fun c_ => ?_) (fun c_ => ?_)
        · have hf := xq_pos hf c_
          refine lv_aload_n hx hb dX12_statement_105 rfl (lv_at hl 0 rfl) ?_
          refine lv_ldc2 (v := 6644082) hx hb hown hw5 dX12_statement_106 ?_
          obtain ⟨r_9, h_10, hf⟩ := xq_bd_some hf
          refine xq_callV (As := [.long 6644082]) (rest := []) (ci := 12) (q0 := 0) ⟨hx, hb, hml, hown, hts⟩ (kX12_isWord l dC dI cI cB cJ cZ cM z ad N a_p0 r_1 mmJ mmR 6644082 h_10) (cwV 1 hts gX12_statement_X12_isWord rfl rfl rfl (by decide +kernel) ⟨Nat.le_of_ble_eq_true rfl, Nat.le_of_ble_eq_true rfl⟩) hN hK hP hD hS hA [0] (by decide) rfl rfl rfl rfl rfl rfl hl.1 rfl (Nat.le_of_ble_eq_true rfl) dX12_statement_109 ⟨Nat.zero_le _, Nat.zero_le _⟩ (fun H locs hP hD hS => ?_)
          have hP : va_P (dC, dI) vwCl [(a_p0, .inr (12, oX12 r_1 mmJ mmR)), ((mmR 24), .inl (cI, 6, .inl mm_sumFromF)), ((mmR 0), .inl (cI, 1800, .inl mm_tapeF)), ((mmR 33), .inl (cI, 20, .inl mm_frameF)), ((mmR 34), .inl (cI, 20, .inl mm_phaseF)), ((mmR 35), .inl (cZ, 20, .inl mm_beginsF)), ((mmR 37), .inl (cI, 20, .inl mm_baseF)), ((mmR 40), .inl (cI, 500, .inl mm_opsF)), ((mmR 26), .inl (cI, 3200, .inl mm_codeSortF)), ((mmR 27), .inl (cI, 3200, .inl mm_codeValueF)), ((mmR 36), .inl (cI, 20, .inl mm_pairF)), ((mmR 25), .inl (cI, 6, .inl mm_sumBehindF)), ((mmR 21), .inl (cI, 2, .inl mm_placesF)), ((mmR 18), .inl (cI, 2, .inl mm_earsF)), ((mmR 28), .inl (cJ, 14, .inr (.inl mm_earNameL))), ((mmR 29), .inl (cJ, 12, .inr (.inl mm_placeNameL))), ((mmR 14), .inl (cI, 2, .inl mm_milesToldF)), ((mmR 22), .inl (cI, 12, .inl mm_placeAtF)), ((mmR 23), .inl (cI, 12, .inl mm_talkToldF)), ((mmR 19), .inl (cI, 14, .inl mm_rowToldF)), ((mmR 20), .inl (cI, 14, .inl mm_sharpOfF)), ((mmR 17), .inl (cI, 2, .inl mm_coughToldF)), ((mmR 16), .inl (cI, 2, .inl mm_hushToldF)), ((mmR 15), .inl (cI, 2, .inl mm_voiceToldF))] H := hP
          have hD : va_D A [(a_p0, .inr (12, oX12 r_1 mmJ mmR)), ((mmR 24), .inl (cI, 6, .inl mm_sumFromF)), ((mmR 0), .inl (cI, 1800, .inl mm_tapeF)), ((mmR 33), .inl (cI, 20, .inl mm_frameF)), ((mmR 34), .inl (cI, 20, .inl mm_phaseF)), ((mmR 35), .inl (cZ, 20, .inl mm_beginsF)), ((mmR 37), .inl (cI, 20, .inl mm_baseF)), ((mmR 40), .inl (cI, 500, .inl mm_opsF)), ((mmR 26), .inl (cI, 3200, .inl mm_codeSortF)), ((mmR 27), .inl (cI, 3200, .inl mm_codeValueF)), ((mmR 36), .inl (cI, 20, .inl mm_pairF)), ((mmR 25), .inl (cI, 6, .inl mm_sumBehindF)), ((mmR 21), .inl (cI, 2, .inl mm_placesF)), ((mmR 18), .inl (cI, 2, .inl mm_earsF)), ((mmR 28), .inl (cJ, 14, .inr (.inl mm_earNameL))), ((mmR 29), .inl (cJ, 12, .inr (.inl mm_placeNameL))), ((mmR 14), .inl (cI, 2, .inl mm_milesToldF)), ((mmR 22), .inl (cI, 12, .inl mm_placeAtF)), ((mmR 23), .inl (cI, 12, .inl mm_talkToldF)), ((mmR 19), .inl (cI, 14, .inl mm_rowToldF)), ((mmR 20), .inl (cI, 14, .inl mm_sharpOfF)), ((mmR 17), .inl (cI, 2, .inl mm_coughToldF)), ((mmR 16), .inl (cI, 2, .inl mm_hushToldF)), ((mmR 15), .inl (cI, 2, .inl mm_voiceToldF))] := hD
          refine W.eq (g2 := F0 m 112 ls [.int r_9]) rfl ?_
          refine lv_if_eq (tgt := 122) hx hb dX12_statement_112 (by decide) (fun c_ => ?_) (fun c_ => ?_)
          · have hf := xq_pos hf c_
            refine lv_aload_n hx hb dX12_statement_122 rfl (lv_at hl 0 rfl) ?_
            refine lv_ldc2 (v := 482854658917) hx hb hown hw6 dX12_statement_123 ?_
            obtain ⟨r_11, h_12, hf⟩ := xq_bd_some hf
            refine xq_callV (As := [.long 482854658917]) (rest := []) (ci := 12) (q0 := 0) ⟨hx, hb, hml, hown, hts⟩ (kX12_isWord l dC dI cI cB cJ cZ cM z ad N a_p0 r_1 mmJ mmR 482854658917 h_12) (cwV 1 hts gX12_statement_X12_isWord rfl rfl rfl (by decide +kernel) ⟨Nat.le_of_ble_eq_true rfl, Nat.le_of_ble_eq_true rfl⟩) hN hK hP hD hS hA [0] (by decide) rfl rfl rfl rfl rfl rfl hl.1 rfl (Nat.le_of_ble_eq_true rfl) dX12_statement_126 ⟨Nat.zero_le _, Nat.zero_le _⟩ (fun H locs hP hD hS => ?_)
            have hP : va_P (dC, dI) vwCl [(a_p0, .inr (12, oX12 r_1 mmJ mmR)), ((mmR 24), .inl (cI, 6, .inl mm_sumFromF)), ((mmR 0), .inl (cI, 1800, .inl mm_tapeF)), ((mmR 33), .inl (cI, 20, .inl mm_frameF)), ((mmR 34), .inl (cI, 20, .inl mm_phaseF)), ((mmR 35), .inl (cZ, 20, .inl mm_beginsF)), ((mmR 37), .inl (cI, 20, .inl mm_baseF)), ((mmR 40), .inl (cI, 500, .inl mm_opsF)), ((mmR 26), .inl (cI, 3200, .inl mm_codeSortF)), ((mmR 27), .inl (cI, 3200, .inl mm_codeValueF)), ((mmR 36), .inl (cI, 20, .inl mm_pairF)), ((mmR 25), .inl (cI, 6, .inl mm_sumBehindF)), ((mmR 21), .inl (cI, 2, .inl mm_placesF)), ((mmR 18), .inl (cI, 2, .inl mm_earsF)), ((mmR 28), .inl (cJ, 14, .inr (.inl mm_earNameL))), ((mmR 29), .inl (cJ, 12, .inr (.inl mm_placeNameL))), ((mmR 14), .inl (cI, 2, .inl mm_milesToldF)), ((mmR 22), .inl (cI, 12, .inl mm_placeAtF)), ((mmR 23), .inl (cI, 12, .inl mm_talkToldF)), ((mmR 19), .inl (cI, 14, .inl mm_rowToldF)), ((mmR 20), .inl (cI, 14, .inl mm_sharpOfF)), ((mmR 17), .inl (cI, 2, .inl mm_coughToldF)), ((mmR 16), .inl (cI, 2, .inl mm_hushToldF)), ((mmR 15), .inl (cI, 2, .inl mm_voiceToldF))] H := hP
            have hD : va_D A [(a_p0, .inr (12, oX12 r_1 mmJ mmR)), ((mmR 24), .inl (cI, 6, .inl mm_sumFromF)), ((mmR 0), .inl (cI, 1800, .inl mm_tapeF)), ((mmR 33), .inl (cI, 20, .inl mm_frameF)), ((mmR 34), .inl (cI, 20, .inl mm_phaseF)), ((mmR 35), .inl (cZ, 20, .inl mm_beginsF)), ((mmR 37), .inl (cI, 20, .inl mm_baseF)), ((mmR 40), .inl (cI, 500, .inl mm_opsF)), ((mmR 26), .inl (cI, 3200, .inl mm_codeSortF)), ((mmR 27), .inl (cI, 3200, .inl mm_codeValueF)), ((mmR 36), .inl (cI, 20, .inl mm_pairF)), ((mmR 25), .inl (cI, 6, .inl mm_sumBehindF)), ((mmR 21), .inl (cI, 2, .inl mm_placesF)), ((mmR 18), .inl (cI, 2, .inl mm_earsF)), ((mmR 28), .inl (cJ, 14, .inr (.inl mm_earNameL))), ((mmR 29), .inl (cJ, 12, .inr (.inl mm_placeNameL))), ((mmR 14), .inl (cI, 2, .inl mm_milesToldF)), ((mmR 22), .inl (cI, 12, .inl mm_placeAtF)), ((mmR 23), .inl (cI, 12, .inl mm_talkToldF)), ((mmR 19), .inl (cI, 14, .inl mm_rowToldF)), ((mmR 20), .inl (cI, 14, .inl mm_sharpOfF)), ((mmR 17), .inl (cI, 2, .inl mm_coughToldF)), ((mmR 16), .inl (cI, 2, .inl mm_hushToldF)), ((mmR 15), .inl (cI, 2, .inl mm_voiceToldF))] := hD
            refine W.eq (g2 := F0 m 129 ls [.int r_11]) rfl ?_
            refine lv_if_eq (tgt := 139) hx hb dX12_statement_129 (by decide) (fun c_ => ?_) (fun c_ => ?_)
            · have hf := xq_pos hf c_
              refine lv_aload_n hx hb dX12_statement_139 rfl (lv_at hl 0 rfl) ?_
              refine lv_ldc2 (v := 1735353715) hx hb hown hw7 dX12_statement_140 ?_
              obtain ⟨r_13, h_14, hf⟩ := xq_bd_some hf
              refine xq_callV (As := [.long 1735353715]) (rest := []) (ci := 12) (q0 := 0) ⟨hx, hb, hml, hown, hts⟩ (kX12_isWord l dC dI cI cB cJ cZ cM z ad N a_p0 r_1 mmJ mmR 1735353715 h_14) (cwV 1 hts gX12_statement_X12_isWord rfl rfl rfl (by decide +kernel) ⟨Nat.le_of_ble_eq_true rfl, Nat.le_of_ble_eq_true rfl⟩) hN hK hP hD hS hA [0] (by decide) rfl rfl rfl rfl rfl rfl hl.1 rfl (Nat.le_of_ble_eq_true rfl) dX12_statement_143 ⟨Nat.zero_le _, Nat.zero_le _⟩ (fun H locs hP hD hS => ?_)
              have hP : va_P (dC, dI) vwCl [(a_p0, .inr (12, oX12 r_1 mmJ mmR)), ((mmR 24), .inl (cI, 6, .inl mm_sumFromF)), ((mmR 0), .inl (cI, 1800, .inl mm_tapeF)), ((mmR 33), .inl (cI, 20, .inl mm_frameF)), ((mmR 34), .inl (cI, 20, .inl mm_phaseF)), ((mmR 35), .inl (cZ, 20, .inl mm_beginsF)), ((mmR 37), .inl (cI, 20, .inl mm_baseF)), ((mmR 40), .inl (cI, 500, .inl mm_opsF)), ((mmR 26), .inl (cI, 3200, .inl mm_codeSortF)), ((mmR 27), .inl (cI, 3200, .inl mm_codeValueF)), ((mmR 36), .inl (cI, 20, .inl mm_pairF)), ((mmR 25), .inl (cI, 6, .inl mm_sumBehindF)), ((mmR 21), .inl (cI, 2, .inl mm_placesF)), ((mmR 18), .inl (cI, 2, .inl mm_earsF)), ((mmR 28), .inl (cJ, 14, .inr (.inl mm_earNameL))), ((mmR 29), .inl (cJ, 12, .inr (.inl mm_placeNameL))), ((mmR 14), .inl (cI, 2, .inl mm_milesToldF)), ((mmR 22), .inl (cI, 12, .inl mm_placeAtF)), ((mmR 23), .inl (cI, 12, .inl mm_talkToldF)), ((mmR 19), .inl (cI, 14, .inl mm_rowToldF)), ((mmR 20), .inl (cI, 14, .inl mm_sharpOfF)), ((mmR 17), .inl (cI, 2, .inl mm_coughToldF)), ((mmR 16), .inl (cI, 2, .inl mm_hushToldF)), ((mmR 15), .inl (cI, 2, .inl mm_voiceToldF))] H := hP
              have hD : va_D A [(a_p0, .inr (12, oX12 r_1 mmJ mmR)), ((mmR 24), .inl (cI, 6, .inl mm_sumFromF)), ((mmR 0), .inl (cI, 1800, .inl mm_tapeF)), ((mmR 33), .inl (cI, 20, .inl mm_frameF)), ((mmR 34), .inl (cI, 20, .inl mm_phaseF)), ((mmR 35), .inl (cZ, 20, .inl mm_beginsF)), ((mmR 37), .inl (cI, 20, .inl mm_baseF)), ((mmR 40), .inl (cI, 500, .inl mm_opsF)), ((mmR 26), .inl (cI, 3200, .inl mm_codeSortF)), ((mmR 27), .inl (cI, 3200, .inl mm_codeValueF)), ((mmR 36), .inl (cI, 20, .inl mm_pairF)), ((mmR 25), .inl (cI, 6, .inl mm_sumBehindF)), ((mmR 21), .inl (cI, 2, .inl mm_placesF)), ((mmR 18), .inl (cI, 2, .inl mm_earsF)), ((mmR 28), .inl (cJ, 14, .inr (.inl mm_earNameL))), ((mmR 29), .inl (cJ, 12, .inr (.inl mm_placeNameL))), ((mmR 14), .inl (cI, 2, .inl mm_milesToldF)), ((mmR 22), .inl (cI, 12, .inl mm_placeAtF)), ((mmR 23), .inl (cI, 12, .inl mm_talkToldF)), ((mmR 19), .inl (cI, 14, .inl mm_rowToldF)), ((mmR 20), .inl (cI, 14, .inl mm_sharpOfF)), ((mmR 17), .inl (cI, 2, .inl mm_coughToldF)), ((mmR 16), .inl (cI, 2, .inl mm_hushToldF)), ((mmR 15), .inl (cI, 2, .inl mm_voiceToldF))] := hD
              refine W.eq (g2 := F0 m 146 ls [.int r_13]) rfl ?_
              refine lv_if_eq (tgt := 157) hx hb dX12_statement_146 (by decide) (fun c_ => ?_) (fun c_ => ?_)
              · have hf := xq_pos hf c_
                refine lv_aload_n hx hb dX12_statement_157 rfl (lv_at hl 0 rfl) ?_
                refine lv_ldc2 (v := 448377483891) hx hb hown hw8 dX12_statement_158 ?_
                obtain ⟨r_15, h_16, hf⟩ := xq_bd_some hf
                refine xq_callV (As := [.long 448377483891]) (rest := []) (ci := 12) (q0 := 0) ⟨hx, hb, hml, hown, hts⟩ (kX12_isWord l dC dI cI cB cJ cZ cM z ad N a_p0 r_1 mmJ mmR 448377483891 h_16) (cwV 1 hts gX12_statement_X12_isWord rfl rfl rfl (by decide +kernel) ⟨Nat.le_of_ble_eq_true rfl, Nat.le_of_ble_eq_true rfl⟩) hN hK hP hD hS hA [0] (by decide) rfl rfl rfl rfl rfl rfl hl.1 rfl (Nat.le_of_ble_eq_true rfl) dX12_statement_161 ⟨Nat.zero_le _, Nat.zero_le _⟩ (fun H locs hP hD hS => ?_)
                have hP : va_P (dC, dI) vwCl [(a_p0, .inr (12, oX12 r_1 mmJ mmR)), ((mmR 24), .inl (cI, 6, .inl mm_sumFromF)), ((mmR 0), .inl (cI, 1800, .inl mm_tapeF)), ((mmR 33), .inl (cI, 20, .inl mm_frameF)), ((mmR 34), .inl (cI, 20, .inl mm_phaseF)), ((mmR 35), .inl (cZ, 20, .inl mm_beginsF)), ((mmR 37), .inl (cI, 20, .inl mm_baseF)), ((mmR 40), .inl (cI, 500, .inl mm_opsF)), ((mmR 26), .inl (cI, 3200, .inl mm_codeSortF)), ((mmR 27), .inl (cI, 3200, .inl mm_codeValueF)), ((mmR 36), .inl (cI, 20, .inl mm_pairF)), ((mmR 25), .inl (cI, 6, .inl mm_sumBehindF)), ((mmR 21), .inl (cI, 2, .inl mm_placesF)), ((mmR 18), .inl (cI, 2, .inl mm_earsF)), ((mmR 28), .inl (cJ, 14, .inr (.inl mm_earNameL))), ((mmR 29), .inl (cJ, 12, .inr (.inl mm_placeNameL))), ((mmR 14), .inl (cI, 2, .inl mm_milesToldF)), ((mmR 22), .inl (cI, 12, .inl mm_placeAtF)), ((mmR 23), .inl (cI, 12, .inl mm_talkToldF)), ((mmR 19), .inl (cI, 14, .inl mm_rowToldF)), ((mmR 20), .inl (cI, 14, .inl mm_sharpOfF)), ((mmR 17), .inl (cI, 2, .inl mm_coughToldF)), ((mmR 16), .inl (cI, 2, .inl mm_hushToldF)), ((mmR 15), .inl (cI, 2, .inl mm_voiceToldF))] H := hP
                have hD : va_D A [(a_p0, .inr (12, oX12 r_1 mmJ mmR)), ((mmR 24), .inl (cI, 6, .inl mm_sumFromF)), ((mmR 0), .inl (cI, 1800, .inl mm_tapeF)), ((mmR 33), .inl (cI, 20, .inl mm_frameF)), ((mmR 34), .inl (cI, 20, .inl mm_phaseF)), ((mmR 35), .inl (cZ, 20, .inl mm_beginsF)), ((mmR 37), .inl (cI, 20, .inl mm_baseF)), ((mmR 40), .inl (cI, 500, .inl mm_opsF)), ((mmR 26), .inl (cI, 3200, .inl mm_codeSortF)), ((mmR 27), .inl (cI, 3200, .inl mm_codeValueF)), ((mmR 36), .inl (cI, 20, .inl mm_pairF)), ((mmR 25), .inl (cI, 6, .inl mm_sumBehindF)), ((mmR 21), .inl (cI, 2, .inl mm_placesF)), ((mmR 18), .inl (cI, 2, .inl mm_earsF)), ((mmR 28), .inl (cJ, 14, .inr (.inl mm_earNameL))), ((mmR 29), .inl (cJ, 12, .inr (.inl mm_placeNameL))), ((mmR 14), .inl (cI, 2, .inl mm_milesToldF)), ((mmR 22), .inl (cI, 12, .inl mm_placeAtF)), ((mmR 23), .inl (cI, 12, .inl mm_talkToldF)), ((mmR 19), .inl (cI, 14, .inl mm_rowToldF)), ((mmR 20), .inl (cI, 14, .inl mm_sharpOfF)), ((mmR 17), .inl (cI, 2, .inl mm_coughToldF)), ((mmR 16), .inl (cI, 2, .inl mm_hushToldF)), ((mmR 15), .inl (cI, 2, .inl mm_voiceToldF))] := hD
                refine W.eq (g2 := F0 m 164 ls [.int r_15]) rfl ?_
                refine lv_if_eq (tgt := 175) hx hb dX12_statement_164 (by decide) (fun c_ => ?_) (fun c_ => ?_)
                · have hf := xq_pos hf c_
                  refine lv_aload_n hx hb dX12_statement_175 rfl (lv_at hl 0 rfl) ?_
                  refine lv_ldc2 (v := 499850701683) hx hb hown hw9 dX12_statement_176 ?_
                  obtain ⟨r_17, h_18, hf⟩ := xq_bd_some hf
                  refine xq_callV (As := [.long 499850701683]) (rest := []) (ci := 12) (q0 := 0) ⟨hx, hb, hml, hown, hts⟩ (kX12_isWord l dC dI cI cB cJ cZ cM z ad N a_p0 r_1 mmJ mmR 499850701683 h_18) (cwV 1 hts gX12_statement_X12_isWord rfl rfl rfl (by decide +kernel) ⟨Nat.le_of_ble_eq_true rfl, Nat.le_of_ble_eq_true rfl⟩) hN hK hP hD hS hA [0] (by decide) rfl rfl rfl rfl rfl rfl hl.1 rfl (Nat.le_of_ble_eq_true rfl) dX12_statement_179 ⟨Nat.zero_le _, Nat.zero_le _⟩ (fun H locs hP hD hS => ?_)
                  have hP : va_P (dC, dI) vwCl [(a_p0, .inr (12, oX12 r_1 mmJ mmR)), ((mmR 24), .inl (cI, 6, .inl mm_sumFromF)), ((mmR 0), .inl (cI, 1800, .inl mm_tapeF)), ((mmR 33), .inl (cI, 20, .inl mm_frameF)), ((mmR 34), .inl (cI, 20, .inl mm_phaseF)), ((mmR 35), .inl (cZ, 20, .inl mm_beginsF)), ((mmR 37), .inl (cI, 20, .inl mm_baseF)), ((mmR 40), .inl (cI, 500, .inl mm_opsF)), ((mmR 26), .inl (cI, 3200, .inl mm_codeSortF)), ((mmR 27), .inl (cI, 3200, .inl mm_codeValueF)), ((mmR 36), .inl (cI, 20, .inl mm_pairF)), ((mmR 25), .inl (cI, 6, .inl mm_sumBehindF)), ((mmR 21), .inl (cI, 2, .inl mm_placesF)), ((mmR 18), .inl (cI, 2, .inl mm_earsF)), ((mmR 28), .inl (cJ, 14, .inr (.inl mm_earNameL))), ((mmR 29), .inl (cJ, 12, .inr (.inl mm_placeNameL))), ((mmR 14), .inl (cI, 2, .inl mm_milesToldF)), ((mmR 22), .inl (cI, 12, .inl mm_placeAtF)), ((mmR 23), .inl (cI, 12, .inl mm_talkToldF)), ((mmR 19), .inl (cI, 14, .inl mm_rowToldF)), ((mmR 20), .inl (cI, 14, .inl mm_sharpOfF)), ((mmR 17), .inl (cI, 2, .inl mm_coughToldF)), ((mmR 16), .inl (cI, 2, .inl mm_hushToldF)), ((mmR 15), .inl (cI, 2, .inl mm_voiceToldF))] H := hP
                  have hD : va_D A [(a_p0, .inr (12, oX12 r_1 mmJ mmR)), ((mmR 24), .inl (cI, 6, .inl mm_sumFromF)), ((mmR 0), .inl (cI, 1800, .inl mm_tapeF)), ((mmR 33), .inl (cI, 20, .inl mm_frameF)), ((mmR 34), .inl (cI, 20, .inl mm_phaseF)), ((mmR 35), .inl (cZ, 20, .inl mm_beginsF)), ((mmR 37), .inl (cI, 20, .inl mm_baseF)), ((mmR 40), .inl (cI, 500, .inl mm_opsF)), ((mmR 26), .inl (cI, 3200, .inl mm_codeSortF)), ((mmR 27), .inl (cI, 3200, .inl mm_codeValueF)), ((mmR 36), .inl (cI, 20, .inl mm_pairF)), ((mmR 25), .inl (cI, 6, .inl mm_sumBehindF)), ((mmR 21), .inl (cI, 2, .inl mm_placesF)), ((mmR 18), .inl (cI, 2, .inl mm_earsF)), ((mmR 28), .inl (cJ, 14, .inr (.inl mm_earNameL))), ((mmR 29), .inl (cJ, 12, .inr (.inl mm_placeNameL))), ((mmR 14), .inl (cI, 2, .inl mm_milesToldF)), ((mmR 22), .inl (cI, 12, .inl mm_placeAtF)), ((mmR 23), .inl (cI, 12, .inl mm_talkToldF)), ((mmR 19), .inl (cI, 14, .inl mm_rowToldF)), ((mmR 20), .inl (cI, 14, .inl mm_sharpOfF)), ((mmR 17), .inl (cI, 2, .inl mm_coughToldF)), ((mmR 16), .inl (cI, 2, .inl mm_hushToldF)), ((mmR 15), .inl (cI, 2, .inl mm_voiceToldF))] := hD
                  refine W.eq (g2 := F0 m 182 ls [.int r_17]) rfl ?_
                  refine lv_if_eq (tgt := 193) hx hb dX12_statement_182 (by decide) (fun c_ => ?_) (fun c_ => ?_)
                  · have hf := xq_pos hf c_
                    refine lv_aload_n hx hb dX12_statement_193 rfl (lv_at hl 0 rfl) ?_
                    refine lv_iconst (v := 1) hx hb dX12_statement_194 (by decide) ?_
                    refine lv_aload_n hx hb dX12_statement_195 rfl (lv_at hl 0 rfl) ?_
                    refine va_get (D := (dC, dI)) (ci := 12) (v := .int (r_1 4)) (C := RX12) (T := TX12) (N := 70) hx hb hts hinX12 hown hK hP 0 rfl rfl 4 (by decide) hw10 (fun _ h9 => h9) rfl dX12_statement_196 ?_
                    obtain ⟨r_19, h_20, hf⟩ := xq_bd_some hf
                    refine xq_callV (As := [.int 1, .int (r_1 4)]) (rest := []) (ci := 12) (q0 := 0) ⟨hx, hb, hml, hown, hts⟩ (kX12_blame l dC dI cI cB cJ cZ cM z ad N a_p0 r_1 mmJ mmR 1 (r_1 4) h_20) (cwV 2 hts gX12_statement_X12_blame rfl rfl rfl (by decide +kernel) ⟨Nat.le_of_ble_eq_true rfl, Nat.le_of_ble_eq_true rfl⟩) hN hK hP hD hS hA [0] (by decide) rfl rfl rfl rfl rfl rfl hl.1 rfl (Nat.le_of_ble_eq_true rfl) dX12_statement_199 ⟨Nat.zero_le _, Nat.zero_le _⟩ (fun H locs hP hD hS => ?_)
                    have hP : va_P (dC, dI) vwCl [(a_p0, .inr (12, oX12 r_19 mmJ mmR)), ((mmR 24), .inl (cI, 6, .inl mm_sumFromF)), ((mmR 0), .inl (cI, 1800, .inl mm_tapeF)), ((mmR 33), .inl (cI, 20, .inl mm_frameF)), ((mmR 34), .inl (cI, 20, .inl mm_phaseF)), ((mmR 35), .inl (cZ, 20, .inl mm_beginsF)), ((mmR 37), .inl (cI, 20, .inl mm_baseF)), ((mmR 40), .inl (cI, 500, .inl mm_opsF)), ((mmR 26), .inl (cI, 3200, .inl mm_codeSortF)), ((mmR 27), .inl (cI, 3200, .inl mm_codeValueF)), ((mmR 36), .inl (cI, 20, .inl mm_pairF)), ((mmR 25), .inl (cI, 6, .inl mm_sumBehindF)), ((mmR 21), .inl (cI, 2, .inl mm_placesF)), ((mmR 18), .inl (cI, 2, .inl mm_earsF)), ((mmR 28), .inl (cJ, 14, .inr (.inl mm_earNameL))), ((mmR 29), .inl (cJ, 12, .inr (.inl mm_placeNameL))), ((mmR 14), .inl (cI, 2, .inl mm_milesToldF)), ((mmR 22), .inl (cI, 12, .inl mm_placeAtF)), ((mmR 23), .inl (cI, 12, .inl mm_talkToldF)), ((mmR 19), .inl (cI, 14, .inl mm_rowToldF)), ((mmR 20), .inl (cI, 14, .inl mm_sharpOfF)), ((mmR 17), .inl (cI, 2, .inl mm_coughToldF)), ((mmR 16), .inl (cI, 2, .inl mm_hushToldF)), ((mmR 15), .inl (cI, 2, .inl mm_voiceToldF))] H := hP
                    have hD : va_D A [(a_p0, .inr (12, oX12 r_19 mmJ mmR)), ((mmR 24), .inl (cI, 6, .inl mm_sumFromF)), ((mmR 0), .inl (cI, 1800, .inl mm_tapeF)), ((mmR 33), .inl (cI, 20, .inl mm_frameF)), ((mmR 34), .inl (cI, 20, .inl mm_phaseF)), ((mmR 35), .inl (cZ, 20, .inl mm_beginsF)), ((mmR 37), .inl (cI, 20, .inl mm_baseF)), ((mmR 40), .inl (cI, 500, .inl mm_opsF)), ((mmR 26), .inl (cI, 3200, .inl mm_codeSortF)), ((mmR 27), .inl (cI, 3200, .inl mm_codeValueF)), ((mmR 36), .inl (cI, 20, .inl mm_pairF)), ((mmR 25), .inl (cI, 6, .inl mm_sumBehindF)), ((mmR 21), .inl (cI, 2, .inl mm_placesF)), ((mmR 18), .inl (cI, 2, .inl mm_earsF)), ((mmR 28), .inl (cJ, 14, .inr (.inl mm_earNameL))), ((mmR 29), .inl (cJ, 12, .inr (.inl mm_placeNameL))), ((mmR 14), .inl (cI, 2, .inl mm_milesToldF)), ((mmR 22), .inl (cI, 12, .inl mm_placeAtF)), ((mmR 23), .inl (cI, 12, .inl mm_talkToldF)), ((mmR 19), .inl (cI, 14, .inl mm_rowToldF)), ((mmR 20), .inl (cI, 14, .inl mm_sharpOfF)), ((mmR 17), .inl (cI, 2, .inl mm_coughToldF)), ((mmR 16), .inl (cI, 2, .inl mm_hushToldF)), ((mmR 15), .inl (cI, 2, .inl mm_voiceToldF))] := hD
                    refine W.eq (g2 := F0 m 202 ls []) rfl ?_
                    have e9 := Option.some.inj hf
                    have e9_0 : r_19 = r0 := congrArg (fun t => t.1) e9
                    have e9_1 : mmJ = r1 := congrArg (fun t => t.2.1) e9
                    have e9_2 : mm_sumFromF = r2 := congrArg (fun t => t.2.2.1) e9
                    have e9_3 : mm_frameF = r3 := congrArg (fun t => t.2.2.2.1) e9
                    have e9_4 : mm_phaseF = r4 := congrArg (fun t => t.2.2.2.2.1) e9
                    have e9_5 : mm_beginsF = r5 := congrArg (fun t => t.2.2.2.2.2.1) e9
                    have e9_6 : mm_baseF = r6 := congrArg (fun t => t.2.2.2.2.2.2.1) e9
                    have e9_7 : mm_opsF = r7 := congrArg (fun t => t.2.2.2.2.2.2.2.1) e9
                    have e9_8 : mm_codeSortF = r8 := congrArg (fun t => t.2.2.2.2.2.2.2.2.1) e9
                    have e9_9 : mm_codeValueF = r9 := congrArg (fun t => t.2.2.2.2.2.2.2.2.2.1) e9
                    have e9_10 : mm_pairF = r10 := congrArg (fun t => t.2.2.2.2.2.2.2.2.2.2.1) e9
                    have e9_11 : mm_sumBehindF = r11 := congrArg (fun t => t.2.2.2.2.2.2.2.2.2.2.2.1) e9
                    have e9_12 : mm_placesF = r12 := congrArg (fun t => t.2.2.2.2.2.2.2.2.2.2.2.2.1) e9
                    have e9_13 : mm_earsF = r13 := congrArg (fun t => t.2.2.2.2.2.2.2.2.2.2.2.2.2.1) e9
                    have e9_14 : mm_earNameL = r14 := congrArg (fun t => t.2.2.2.2.2.2.2.2.2.2.2.2.2.2.1) e9
                    have e9_15 : mm_placeNameL = r15 := congrArg (fun t => t.2.2.2.2.2.2.2.2.2.2.2.2.2.2.2.1) e9
                    have e9_16 : mm_placeAtF = r16 := congrArg (fun t => t.2.2.2.2.2.2.2.2.2.2.2.2.2.2.2.2.1) e9
                    have e9_17 : mm_talkToldF = r17 := congrArg (fun t => t.2.2.2.2.2.2.2.2.2.2.2.2.2.2.2.2.2.1) e9
                    have e9_18 : mm_rowToldF = r18 := congrArg (fun t => t.2.2.2.2.2.2.2.2.2.2.2.2.2.2.2.2.2.2.1) e9
                    have e9_19 : mm_sharpOfF = r19 := congrArg (fun t => t.2.2.2.2.2.2.2.2.2.2.2.2.2.2.2.2.2.2.2.1) e9
                    have e9_20 : mm_coughToldF = r20 := congrArg (fun t => t.2.2.2.2.2.2.2.2.2.2.2.2.2.2.2.2.2.2.2.2.1) e9
                    have e9_21 : mm_hushToldF = r21 := congrArg (fun t => t.2.2.2.2.2.2.2.2.2.2.2.2.2.2.2.2.2.2.2.2.2.1) e9
                    have e9_22 : mm_voiceToldF = r22 := congrArg (fun t => t.2.2.2.2.2.2.2.2.2.2.2.2.2.2.2.2.2.2.2.2.2.2) e9
                    clear e9 hf
                    subst e9_0
                    subst e9_1
                    subst e9_2
                    subst e9_3
                    subst e9_4
                    subst e9_5
                    subst e9_6
                    subst e9_7
                    subst e9_8
                    subst e9_9
                    subst e9_10
                    subst e9_11
                    subst e9_12
                    subst e9_13
                    subst e9_14
                    subst e9_15
                    subst e9_16
                    subst e9_17
                    subst e9_18
                    subst e9_19
                    subst e9_20
                    subst e9_21
                    subst e9_22
                    exact xq_vret hx hb hr hlocks hK hP hD hS dX12_statement_202
                  · have hf := xq_neg hf c_
                    refine lv_aload_n hx hb dX12_statement_185 rfl (lv_at hl 0 rfl) ?_
                    refine lv_iconst (v := 2) hx hb dX12_statement_186 (by decide) ?_
                    obtain ⟨⟨r_21_0, r_21_1, r_21_2, r_21_3, r_21_4, r_21_5, r_21_6, r_21_7, r_21_8, r_21_9, r_21_10, r_21_11⟩, h_22, hf⟩ := xq_bd_some hf
                    refine xq_callV (As := [.int 2]) (rest := []) (ci := 12) (q0 := 0) ⟨hx, hb, hml, hown, hts⟩ (kX12_reading l dC dI cI cB cJ cZ cM z ad N a_p0 r_1 mmJ mmR mm_sumFromF mm_tapeF mm_frameF mm_phaseF mm_beginsF mm_baseF mm_opsF mm_codeSortF mm_codeValueF mm_pairF mm_sumBehindF 2 h_22) (cwV 1 hts gX12_statement_X12_reading rfl rfl rfl (by decide +kernel) ⟨Nat.le_of_ble_eq_true rfl, Nat.le_of_ble_eq_true rfl⟩) hN hK hP hD hS hA [0, 1, 2, 3, 4, 5, 6, 7, 8, 9, 10, 11] (by decide) rfl rfl rfl rfl rfl rfl hl.1 rfl (Nat.le_of_ble_eq_true rfl) dX12_statement_187 ⟨Nat.zero_le _, Nat.zero_le _⟩ (fun H locs hP hD hS => ?_)
                    have hP : va_P (dC, dI) vwCl [(a_p0, .inr (12, oX12 r_21_0 r_21_1 mmR)), ((mmR 24), .inl (cI, 6, .inl r_21_2)), ((mmR 0), .inl (cI, 1800, .inl mm_tapeF)), ((mmR 33), .inl (cI, 20, .inl r_21_3)), ((mmR 34), .inl (cI, 20, .inl r_21_4)), ((mmR 35), .inl (cZ, 20, .inl r_21_5)), ((mmR 37), .inl (cI, 20, .inl r_21_6)), ((mmR 40), .inl (cI, 500, .inl r_21_7)), ((mmR 26), .inl (cI, 3200, .inl r_21_8)), ((mmR 27), .inl (cI, 3200, .inl r_21_9)), ((mmR 36), .inl (cI, 20, .inl r_21_10)), ((mmR 25), .inl (cI, 6, .inl r_21_11)), ((mmR 21), .inl (cI, 2, .inl mm_placesF)), ((mmR 18), .inl (cI, 2, .inl mm_earsF)), ((mmR 28), .inl (cJ, 14, .inr (.inl mm_earNameL))), ((mmR 29), .inl (cJ, 12, .inr (.inl mm_placeNameL))), ((mmR 14), .inl (cI, 2, .inl mm_milesToldF)), ((mmR 22), .inl (cI, 12, .inl mm_placeAtF)), ((mmR 23), .inl (cI, 12, .inl mm_talkToldF)), ((mmR 19), .inl (cI, 14, .inl mm_rowToldF)), ((mmR 20), .inl (cI, 14, .inl mm_sharpOfF)), ((mmR 17), .inl (cI, 2, .inl mm_coughToldF)), ((mmR 16), .inl (cI, 2, .inl mm_hushToldF)), ((mmR 15), .inl (cI, 2, .inl mm_voiceToldF))] H := hP
                    have hD : va_D A [(a_p0, .inr (12, oX12 r_21_0 r_21_1 mmR)), ((mmR 24), .inl (cI, 6, .inl r_21_2)), ((mmR 0), .inl (cI, 1800, .inl mm_tapeF)), ((mmR 33), .inl (cI, 20, .inl r_21_3)), ((mmR 34), .inl (cI, 20, .inl r_21_4)), ((mmR 35), .inl (cZ, 20, .inl r_21_5)), ((mmR 37), .inl (cI, 20, .inl r_21_6)), ((mmR 40), .inl (cI, 500, .inl r_21_7)), ((mmR 26), .inl (cI, 3200, .inl r_21_8)), ((mmR 27), .inl (cI, 3200, .inl r_21_9)), ((mmR 36), .inl (cI, 20, .inl r_21_10)), ((mmR 25), .inl (cI, 6, .inl r_21_11)), ((mmR 21), .inl (cI, 2, .inl mm_placesF)), ((mmR 18), .inl (cI, 2, .inl mm_earsF)), ((mmR 28), .inl (cJ, 14, .inr (.inl mm_earNameL))), ((mmR 29), .inl (cJ, 12, .inr (.inl mm_placeNameL))), ((mmR 14), .inl (cI, 2, .inl mm_milesToldF)), ((mmR 22), .inl (cI, 12, .inl mm_placeAtF)), ((mmR 23), .inl (cI, 12, .inl mm_talkToldF)), ((mmR 19), .inl (cI, 14, .inl mm_rowToldF)), ((mmR 20), .inl (cI, 14, .inl mm_sharpOfF)), ((mmR 17), .inl (cI, 2, .inl mm_coughToldF)), ((mmR 16), .inl (cI, 2, .inl mm_hushToldF)), ((mmR 15), .inl (cI, 2, .inl mm_voiceToldF))] := hD
                    refine W.eq (g2 := F0 m 190 ls []) rfl ?_
                    refine lv_goto (tgt := 202) hx hb dX12_statement_190 (by decide) ?_
                    have e9 := Option.some.inj hf
                    have e9_0 : r_21_0 = r0 := congrArg (fun t => t.1) e9
                    have e9_1 : r_21_1 = r1 := congrArg (fun t => t.2.1) e9
                    have e9_2 : r_21_2 = r2 := congrArg (fun t => t.2.2.1) e9
                    have e9_3 : r_21_3 = r3 := congrArg (fun t => t.2.2.2.1) e9
                    have e9_4 : r_21_4 = r4 := congrArg (fun t => t.2.2.2.2.1) e9
                    have e9_5 : r_21_5 = r5 := congrArg (fun t => t.2.2.2.2.2.1) e9
                    have e9_6 : r_21_6 = r6 := congrArg (fun t => t.2.2.2.2.2.2.1) e9
                    have e9_7 : r_21_7 = r7 := congrArg (fun t => t.2.2.2.2.2.2.2.1) e9
                    have e9_8 : r_21_8 = r8 := congrArg (fun t => t.2.2.2.2.2.2.2.2.1) e9
                    have e9_9 : r_21_9 = r9 := congrArg (fun t => t.2.2.2.2.2.2.2.2.2.1) e9
                    have e9_10 : r_21_10 = r10 := congrArg (fun t => t.2.2.2.2.2.2.2.2.2.2.1) e9
                    have e9_11 : r_21_11 = r11 := congrArg (fun t => t.2.2.2.2.2.2.2.2.2.2.2.1) e9
                    have e9_12 : mm_placesF = r12 := congrArg (fun t => t.2.2.2.2.2.2.2.2.2.2.2.2.1) e9
                    have e9_13 : mm_earsF = r13 := congrArg (fun t => t.2.2.2.2.2.2.2.2.2.2.2.2.2.1) e9
                    have e9_14 : mm_earNameL = r14 := congrArg (fun t => t.2.2.2.2.2.2.2.2.2.2.2.2.2.2.1) e9
                    have e9_15 : mm_placeNameL = r15 := congrArg (fun t => t.2.2.2.2.2.2.2.2.2.2.2.2.2.2.2.1) e9
                    have e9_16 : mm_placeAtF = r16 := congrArg (fun t => t.2.2.2.2.2.2.2.2.2.2.2.2.2.2.2.2.1) e9
                    have e9_17 : mm_talkToldF = r17 := congrArg (fun t => t.2.2.2.2.2.2.2.2.2.2.2.2.2.2.2.2.2.1) e9
                    have e9_18 : mm_rowToldF = r18 := congrArg (fun t => t.2.2.2.2.2.2.2.2.2.2.2.2.2.2.2.2.2.2.1) e9
                    have e9_19 : mm_sharpOfF = r19 := congrArg (fun t => t.2.2.2.2.2.2.2.2.2.2.2.2.2.2.2.2.2.2.2.1) e9
                    have e9_20 : mm_coughToldF = r20 := congrArg (fun t => t.2.2.2.2.2.2.2.2.2.2.2.2.2.2.2.2.2.2.2.2.1) e9
                    have e9_21 : mm_hushToldF = r21 := congrArg (fun t => t.2.2.2.2.2.2.2.2.2.2.2.2.2.2.2.2.2.2.2.2.2.1) e9
                    have e9_22 : mm_voiceToldF = r22 := congrArg (fun t => t.2.2.2.2.2.2.2.2.2.2.2.2.2.2.2.2.2.2.2.2.2.2) e9
                    clear e9 hf
                    subst e9_0
                    subst e9_1
                    subst e9_2
                    subst e9_3
                    subst e9_4
                    subst e9_5
                    subst e9_6
                    subst e9_7
                    subst e9_8
                    subst e9_9
                    subst e9_10
                    subst e9_11
                    subst e9_12
                    subst e9_13
                    subst e9_14
                    subst e9_15
                    subst e9_16
                    subst e9_17
                    subst e9_18
                    subst e9_19
                    subst e9_20
                    subst e9_21
                    subst e9_22
                    exact xq_vret hx hb hr hlocks hK hP hD hS dX12_statement_202
                · have hf := xq_neg hf c_
                  refine lv_aload_n hx hb dX12_statement_167 rfl (lv_at hl 0 rfl) ?_
                  refine lv_iconst (v := 1) hx hb dX12_statement_168 (by decide) ?_
                  obtain ⟨⟨r_23_0, r_23_1, r_23_2, r_23_3, r_23_4, r_23_5, r_23_6, r_23_7, r_23_8, r_23_9, r_23_10, r_23_11⟩, h_24, hf⟩ := xq_bd_some hf
                  refine xq_callV (As := [.int 1]) (rest := []) (ci := 12) (q0 := 0) ⟨hx, hb, hml, hown, hts⟩ (kX12_reading l dC dI cI cB cJ cZ cM z ad N a_p0 r_1 mmJ mmR mm_sumFromF mm_tapeF mm_frameF mm_phaseF mm_beginsF mm_baseF mm_opsF mm_codeSortF mm_codeValueF mm_pairF mm_sumBehindF 1 h_24) (cwV 1 hts gX12_statement_X12_reading rfl rfl rfl (by decide +kernel) ⟨Nat.le_of_ble_eq_true rfl, Nat.le_of_ble_eq_true rfl⟩) hN hK hP hD hS hA [0, 1, 2, 3, 4, 5, 6, 7, 8, 9, 10, 11] (by decide) rfl rfl rfl rfl rfl rfl hl.1 rfl (Nat.le_of_ble_eq_true rfl) dX12_statement_169 ⟨Nat.zero_le _, Nat.zero_le _⟩ (fun H locs hP hD hS => ?_)
                  have hP : va_P (dC, dI) vwCl [(a_p0, .inr (12, oX12 r_23_0 r_23_1 mmR)), ((mmR 24), .inl (cI, 6, .inl r_23_2)), ((mmR 0), .inl (cI, 1800, .inl mm_tapeF)), ((mmR 33), .inl (cI, 20, .inl r_23_3)), ((mmR 34), .inl (cI, 20, .inl r_23_4)), ((mmR 35), .inl (cZ, 20, .inl r_23_5)), ((mmR 37), .inl (cI, 20, .inl r_23_6)), ((mmR 40), .inl (cI, 500, .inl r_23_7)), ((mmR 26), .inl (cI, 3200, .inl r_23_8)), ((mmR 27), .inl (cI, 3200, .inl r_23_9)), ((mmR 36), .inl (cI, 20, .inl r_23_10)), ((mmR 25), .inl (cI, 6, .inl r_23_11)), ((mmR 21), .inl (cI, 2, .inl mm_placesF)), ((mmR 18), .inl (cI, 2, .inl mm_earsF)), ((mmR 28), .inl (cJ, 14, .inr (.inl mm_earNameL))), ((mmR 29), .inl (cJ, 12, .inr (.inl mm_placeNameL))), ((mmR 14), .inl (cI, 2, .inl mm_milesToldF)), ((mmR 22), .inl (cI, 12, .inl mm_placeAtF)), ((mmR 23), .inl (cI, 12, .inl mm_talkToldF)), ((mmR 19), .inl (cI, 14, .inl mm_rowToldF)), ((mmR 20), .inl (cI, 14, .inl mm_sharpOfF)), ((mmR 17), .inl (cI, 2, .inl mm_coughToldF)), ((mmR 16), .inl (cI, 2, .inl mm_hushToldF)), ((mmR 15), .inl (cI, 2, .inl mm_voiceToldF))] H := hP
                  have hD : va_D A [(a_p0, .inr (12, oX12 r_23_0 r_23_1 mmR)), ((mmR 24), .inl (cI, 6, .inl r_23_2)), ((mmR 0), .inl (cI, 1800, .inl mm_tapeF)), ((mmR 33), .inl (cI, 20, .inl r_23_3)), ((mmR 34), .inl (cI, 20, .inl r_23_4)), ((mmR 35), .inl (cZ, 20, .inl r_23_5)), ((mmR 37), .inl (cI, 20, .inl r_23_6)), ((mmR 40), .inl (cI, 500, .inl r_23_7)), ((mmR 26), .inl (cI, 3200, .inl r_23_8)), ((mmR 27), .inl (cI, 3200, .inl r_23_9)), ((mmR 36), .inl (cI, 20, .inl r_23_10)), ((mmR 25), .inl (cI, 6, .inl r_23_11)), ((mmR 21), .inl (cI, 2, .inl mm_placesF)), ((mmR 18), .inl (cI, 2, .inl mm_earsF)), ((mmR 28), .inl (cJ, 14, .inr (.inl mm_earNameL))), ((mmR 29), .inl (cJ, 12, .inr (.inl mm_placeNameL))), ((mmR 14), .inl (cI, 2, .inl mm_milesToldF)), ((mmR 22), .inl (cI, 12, .inl mm_placeAtF)), ((mmR 23), .inl (cI, 12, .inl mm_talkToldF)), ((mmR 19), .inl (cI, 14, .inl mm_rowToldF)), ((mmR 20), .inl (cI, 14, .inl mm_sharpOfF)), ((mmR 17), .inl (cI, 2, .inl mm_coughToldF)), ((mmR 16), .inl (cI, 2, .inl mm_hushToldF)), ((mmR 15), .inl (cI, 2, .inl mm_voiceToldF))] := hD
                  refine W.eq (g2 := F0 m 172 ls []) rfl ?_
                  refine lv_goto (tgt := 202) hx hb dX12_statement_172 (by decide) ?_
                  have e9 := Option.some.inj hf
                  have e9_0 : r_23_0 = r0 := congrArg (fun t => t.1) e9
                  have e9_1 : r_23_1 = r1 := congrArg (fun t => t.2.1) e9
                  have e9_2 : r_23_2 = r2 := congrArg (fun t => t.2.2.1) e9
                  have e9_3 : r_23_3 = r3 := congrArg (fun t => t.2.2.2.1) e9
                  have e9_4 : r_23_4 = r4 := congrArg (fun t => t.2.2.2.2.1) e9
                  have e9_5 : r_23_5 = r5 := congrArg (fun t => t.2.2.2.2.2.1) e9
                  have e9_6 : r_23_6 = r6 := congrArg (fun t => t.2.2.2.2.2.2.1) e9
                  have e9_7 : r_23_7 = r7 := congrArg (fun t => t.2.2.2.2.2.2.2.1) e9
                  have e9_8 : r_23_8 = r8 := congrArg (fun t => t.2.2.2.2.2.2.2.2.1) e9
                  have e9_9 : r_23_9 = r9 := congrArg (fun t => t.2.2.2.2.2.2.2.2.2.1) e9
                  have e9_10 : r_23_10 = r10 := congrArg (fun t => t.2.2.2.2.2.2.2.2.2.2.1) e9
                  have e9_11 : r_23_11 = r11 := congrArg (fun t => t.2.2.2.2.2.2.2.2.2.2.2.1) e9
                  have e9_12 : mm_placesF = r12 := congrArg (fun t => t.2.2.2.2.2.2.2.2.2.2.2.2.1) e9
                  have e9_13 : mm_earsF = r13 := congrArg (fun t => t.2.2.2.2.2.2.2.2.2.2.2.2.2.1) e9
                  have e9_14 : mm_earNameL = r14 := congrArg (fun t => t.2.2.2.2.2.2.2.2.2.2.2.2.2.2.1) e9
                  have e9_15 : mm_placeNameL = r15 := congrArg (fun t => t.2.2.2.2.2.2.2.2.2.2.2.2.2.2.2.1) e9
                  have e9_16 : mm_placeAtF = r16 := congrArg (fun t => t.2.2.2.2.2.2.2.2.2.2.2.2.2.2.2.2.1) e9
                  have e9_17 : mm_talkToldF = r17 := congrArg (fun t => t.2.2.2.2.2.2.2.2.2.2.2.2.2.2.2.2.2.1) e9
                  have e9_18 : mm_rowToldF = r18 := congrArg (fun t => t.2.2.2.2.2.2.2.2.2.2.2.2.2.2.2.2.2.2.1) e9
                  have e9_19 : mm_sharpOfF = r19 := congrArg (fun t => t.2.2.2.2.2.2.2.2.2.2.2.2.2.2.2.2.2.2.2.1) e9
                  have e9_20 : mm_coughToldF = r20 := congrArg (fun t => t.2.2.2.2.2.2.2.2.2.2.2.2.2.2.2.2.2.2.2.2.1) e9
                  have e9_21 : mm_hushToldF = r21 := congrArg (fun t => t.2.2.2.2.2.2.2.2.2.2.2.2.2.2.2.2.2.2.2.2.2.1) e9
                  have e9_22 : mm_voiceToldF = r22 := congrArg (fun t => t.2.2.2.2.2.2.2.2.2.2.2.2.2.2.2.2.2.2.2.2.2.2) e9
                  clear e9 hf
                  subst e9_0
                  subst e9_1
                  subst e9_2
                  subst e9_3
                  subst e9_4
                  subst e9_5
                  subst e9_6
                  subst e9_7
                  subst e9_8
                  subst e9_9
                  subst e9_10
                  subst e9_11
                  subst e9_12
                  subst e9_13
                  subst e9_14
                  subst e9_15
                  subst e9_16
                  subst e9_17
                  subst e9_18
                  subst e9_19
                  subst e9_20
                  subst e9_21
                  subst e9_22
                  exact xq_vret hx hb hr hlocks hK hP hD hS dX12_statement_202
              · have hf := xq_neg hf c_
                refine lv_aload_n hx hb dX12_statement_149 rfl (lv_at hl 0 rfl) ?_
                refine lv_iconst (v := 0) hx hb dX12_statement_150 (by decide) ?_
                obtain ⟨⟨r_25_0, r_25_1, r_25_2, r_25_3, r_25_4, r_25_5, r_25_6, r_25_7, r_25_8, r_25_9, r_25_10, r_25_11⟩, h_26, hf⟩ := xq_bd_some hf
                refine xq_callV (As := [.int 0]) (rest := []) (ci := 12) (q0 := 0) ⟨hx, hb, hml, hown, hts⟩ (kX12_reading l dC dI cI cB cJ cZ cM z ad N a_p0 r_1 mmJ mmR mm_sumFromF mm_tapeF mm_frameF mm_phaseF mm_beginsF mm_baseF mm_opsF mm_codeSortF mm_codeValueF mm_pairF mm_sumBehindF 0 h_26) (cwV 1 hts gX12_statement_X12_reading rfl rfl rfl (by decide +kernel) ⟨Nat.le_of_ble_eq_true rfl, Nat.le_of_ble_eq_true rfl⟩) hN hK hP hD hS hA [0, 1, 2, 3, 4, 5, 6, 7, 8, 9, 10, 11] (by decide) rfl rfl rfl rfl rfl rfl hl.1 rfl (Nat.le_of_ble_eq_true rfl) dX12_statement_151 ⟨Nat.zero_le _, Nat.zero_le _⟩ (fun H locs hP hD hS => ?_)
                have hP : va_P (dC, dI) vwCl [(a_p0, .inr (12, oX12 r_25_0 r_25_1 mmR)), ((mmR 24), .inl (cI, 6, .inl r_25_2)), ((mmR 0), .inl (cI, 1800, .inl mm_tapeF)), ((mmR 33), .inl (cI, 20, .inl r_25_3)), ((mmR 34), .inl (cI, 20, .inl r_25_4)), ((mmR 35), .inl (cZ, 20, .inl r_25_5)), ((mmR 37), .inl (cI, 20, .inl r_25_6)), ((mmR 40), .inl (cI, 500, .inl r_25_7)), ((mmR 26), .inl (cI, 3200, .inl r_25_8)), ((mmR 27), .inl (cI, 3200, .inl r_25_9)), ((mmR 36), .inl (cI, 20, .inl r_25_10)), ((mmR 25), .inl (cI, 6, .inl r_25_11)), ((mmR 21), .inl (cI, 2, .inl mm_placesF)), ((mmR 18), .inl (cI, 2, .inl mm_earsF)), ((mmR 28), .inl (cJ, 14, .inr (.inl mm_earNameL))), ((mmR 29), .inl (cJ, 12, .inr (.inl mm_placeNameL))), ((mmR 14), .inl (cI, 2, .inl mm_milesToldF)), ((mmR 22), .inl (cI, 12, .inl mm_placeAtF)), ((mmR 23), .inl (cI, 12, .inl mm_talkToldF)), ((mmR 19), .inl (cI, 14, .inl mm_rowToldF)), ((mmR 20), .inl (cI, 14, .inl mm_sharpOfF)), ((mmR 17), .inl (cI, 2, .inl mm_coughToldF)), ((mmR 16), .inl (cI, 2, .inl mm_hushToldF)), ((mmR 15), .inl (cI, 2, .inl mm_voiceToldF))] H := hP
                have hD : va_D A [(a_p0, .inr (12, oX12 r_25_0 r_25_1 mmR)), ((mmR 24), .inl (cI, 6, .inl r_25_2)), ((mmR 0), .inl (cI, 1800, .inl mm_tapeF)), ((mmR 33), .inl (cI, 20, .inl r_25_3)), ((mmR 34), .inl (cI, 20, .inl r_25_4)), ((mmR 35), .inl (cZ, 20, .inl r_25_5)), ((mmR 37), .inl (cI, 20, .inl r_25_6)), ((mmR 40), .inl (cI, 500, .inl r_25_7)), ((mmR 26), .inl (cI, 3200, .inl r_25_8)), ((mmR 27), .inl (cI, 3200, .inl r_25_9)), ((mmR 36), .inl (cI, 20, .inl r_25_10)), ((mmR 25), .inl (cI, 6, .inl r_25_11)), ((mmR 21), .inl (cI, 2, .inl mm_placesF)), ((mmR 18), .inl (cI, 2, .inl mm_earsF)), ((mmR 28), .inl (cJ, 14, .inr (.inl mm_earNameL))), ((mmR 29), .inl (cJ, 12, .inr (.inl mm_placeNameL))), ((mmR 14), .inl (cI, 2, .inl mm_milesToldF)), ((mmR 22), .inl (cI, 12, .inl mm_placeAtF)), ((mmR 23), .inl (cI, 12, .inl mm_talkToldF)), ((mmR 19), .inl (cI, 14, .inl mm_rowToldF)), ((mmR 20), .inl (cI, 14, .inl mm_sharpOfF)), ((mmR 17), .inl (cI, 2, .inl mm_coughToldF)), ((mmR 16), .inl (cI, 2, .inl mm_hushToldF)), ((mmR 15), .inl (cI, 2, .inl mm_voiceToldF))] := hD
                refine W.eq (g2 := F0 m 154 ls []) rfl ?_
                refine lv_goto (tgt := 202) hx hb dX12_statement_154 (by decide) ?_
                have e9 := Option.some.inj hf
                have e9_0 : r_25_0 = r0 := congrArg (fun t => t.1) e9
                have e9_1 : r_25_1 = r1 := congrArg (fun t => t.2.1) e9
                have e9_2 : r_25_2 = r2 := congrArg (fun t => t.2.2.1) e9
                have e9_3 : r_25_3 = r3 := congrArg (fun t => t.2.2.2.1) e9
                have e9_4 : r_25_4 = r4 := congrArg (fun t => t.2.2.2.2.1) e9
                have e9_5 : r_25_5 = r5 := congrArg (fun t => t.2.2.2.2.2.1) e9
                have e9_6 : r_25_6 = r6 := congrArg (fun t => t.2.2.2.2.2.2.1) e9
                have e9_7 : r_25_7 = r7 := congrArg (fun t => t.2.2.2.2.2.2.2.1) e9
                have e9_8 : r_25_8 = r8 := congrArg (fun t => t.2.2.2.2.2.2.2.2.1) e9
                have e9_9 : r_25_9 = r9 := congrArg (fun t => t.2.2.2.2.2.2.2.2.2.1) e9
                have e9_10 : r_25_10 = r10 := congrArg (fun t => t.2.2.2.2.2.2.2.2.2.2.1) e9
                have e9_11 : r_25_11 = r11 := congrArg (fun t => t.2.2.2.2.2.2.2.2.2.2.2.1) e9
                have e9_12 : mm_placesF = r12 := congrArg (fun t => t.2.2.2.2.2.2.2.2.2.2.2.2.1) e9
                have e9_13 : mm_earsF = r13 := congrArg (fun t => t.2.2.2.2.2.2.2.2.2.2.2.2.2.1) e9
                have e9_14 : mm_earNameL = r14 := congrArg (fun t => t.2.2.2.2.2.2.2.2.2.2.2.2.2.2.1) e9
                have e9_15 : mm_placeNameL = r15 := congrArg (fun t => t.2.2.2.2.2.2.2.2.2.2.2.2.2.2.2.1) e9
                have e9_16 : mm_placeAtF = r16 := congrArg (fun t => t.2.2.2.2.2.2.2.2.2.2.2.2.2.2.2.2.1) e9
                have e9_17 : mm_talkToldF = r17 := congrArg (fun t => t.2.2.2.2.2.2.2.2.2.2.2.2.2.2.2.2.2.1) e9
                have e9_18 : mm_rowToldF = r18 := congrArg (fun t => t.2.2.2.2.2.2.2.2.2.2.2.2.2.2.2.2.2.2.1) e9
                have e9_19 : mm_sharpOfF = r19 := congrArg (fun t => t.2.2.2.2.2.2.2.2.2.2.2.2.2.2.2.2.2.2.2.1) e9
                have e9_20 : mm_coughToldF = r20 := congrArg (fun t => t.2.2.2.2.2.2.2.2.2.2.2.2.2.2.2.2.2.2.2.2.1) e9
                have e9_21 : mm_hushToldF = r21 := congrArg (fun t => t.2.2.2.2.2.2.2.2.2.2.2.2.2.2.2.2.2.2.2.2.2.1) e9
                have e9_22 : mm_voiceToldF = r22 := congrArg (fun t => t.2.2.2.2.2.2.2.2.2.2.2.2.2.2.2.2.2.2.2.2.2.2) e9
                clear e9 hf
                subst e9_0
                subst e9_1
                subst e9_2
                subst e9_3
                subst e9_4
                subst e9_5
                subst e9_6
                subst e9_7
                subst e9_8
                subst e9_9
                subst e9_10
                subst e9_11
                subst e9_12
                subst e9_13
                subst e9_14
                subst e9_15
                subst e9_16
                subst e9_17
                subst e9_18
                subst e9_19
                subst e9_20
                subst e9_21
                subst e9_22
                exact xq_vret hx hb hr hlocks hK hP hD hS dX12_statement_202
            · have hf := xq_neg hf c_
              refine lv_aload_n hx hb dX12_statement_132 rfl (lv_at hl 0 rfl) ?_
              obtain ⟨⟨r_27_0, r_27_1, r_27_2, r_27_3, r_27_4, r_27_5⟩, h_28, hf⟩ := xq_bd_some hf
              refine xq_callV (As := []) (rest := []) (ci := 12) (q0 := 0) ⟨hx, hb, hml, hown, hts⟩ (kX12_placing l dC dI cI cB cJ cZ cM z ad N a_p0 r_1 mmJ mmR mm_placesF mm_tapeF mm_earsF mm_earNameL mm_placeNameL mm_milesToldF mm_placeAtF mm_talkToldF h_28) (cwV 0 hts gX12_statement_X12_placing rfl rfl rfl (by decide +kernel) ⟨Nat.le_of_ble_eq_true rfl, Nat.le_of_ble_eq_true rfl⟩) hN hK hP hD hS hA [0, 12, 2, 13, 14, 15, 16, 17, 18] (by decide) rfl rfl rfl rfl rfl rfl hl.1 rfl (Nat.le_of_ble_eq_true rfl) dX12_statement_133 ⟨Nat.zero_le _, Nat.zero_le _⟩ (fun H locs hP hD hS => ?_)
              have hP : va_P (dC, dI) vwCl [(a_p0, .inr (12, oX12 r_27_0 r_27_1 mmR)), ((mmR 24), .inl (cI, 6, .inl mm_sumFromF)), ((mmR 0), .inl (cI, 1800, .inl mm_tapeF)), ((mmR 33), .inl (cI, 20, .inl mm_frameF)), ((mmR 34), .inl (cI, 20, .inl mm_phaseF)), ((mmR 35), .inl (cZ, 20, .inl mm_beginsF)), ((mmR 37), .inl (cI, 20, .inl mm_baseF)), ((mmR 40), .inl (cI, 500, .inl mm_opsF)), ((mmR 26), .inl (cI, 3200, .inl mm_codeSortF)), ((mmR 27), .inl (cI, 3200, .inl mm_codeValueF)), ((mmR 36), .inl (cI, 20, .inl mm_pairF)), ((mmR 25), .inl (cI, 6, .inl mm_sumBehindF)), ((mmR 21), .inl (cI, 2, .inl r_27_2)), ((mmR 18), .inl (cI, 2, .inl mm_earsF)), ((mmR 28), .inl (cJ, 14, .inr (.inl mm_earNameL))), ((mmR 29), .inl (cJ, 12, .inr (.inl r_27_3))), ((mmR 14), .inl (cI, 2, .inl mm_milesToldF)), ((mmR 22), .inl (cI, 12, .inl r_27_4)), ((mmR 23), .inl (cI, 12, .inl r_27_5)), ((mmR 19), .inl (cI, 14, .inl mm_rowToldF)), ((mmR 20), .inl (cI, 14, .inl mm_sharpOfF)), ((mmR 17), .inl (cI, 2, .inl mm_coughToldF)), ((mmR 16), .inl (cI, 2, .inl mm_hushToldF)), ((mmR 15), .inl (cI, 2, .inl mm_voiceToldF))] H := hP
              have hD : va_D A [(a_p0, .inr (12, oX12 r_27_0 r_27_1 mmR)), ((mmR 24), .inl (cI, 6, .inl mm_sumFromF)), ((mmR 0), .inl (cI, 1800, .inl mm_tapeF)), ((mmR 33), .inl (cI, 20, .inl mm_frameF)), ((mmR 34), .inl (cI, 20, .inl mm_phaseF)), ((mmR 35), .inl (cZ, 20, .inl mm_beginsF)), ((mmR 37), .inl (cI, 20, .inl mm_baseF)), ((mmR 40), .inl (cI, 500, .inl mm_opsF)), ((mmR 26), .inl (cI, 3200, .inl mm_codeSortF)), ((mmR 27), .inl (cI, 3200, .inl mm_codeValueF)), ((mmR 36), .inl (cI, 20, .inl mm_pairF)), ((mmR 25), .inl (cI, 6, .inl mm_sumBehindF)), ((mmR 21), .inl (cI, 2, .inl r_27_2)), ((mmR 18), .inl (cI, 2, .inl mm_earsF)), ((mmR 28), .inl (cJ, 14, .inr (.inl mm_earNameL))), ((mmR 29), .inl (cJ, 12, .inr (.inl r_27_3))), ((mmR 14), .inl (cI, 2, .inl mm_milesToldF)), ((mmR 22), .inl (cI, 12, .inl r_27_4)), ((mmR 23), .inl (cI, 12, .inl r_27_5)), ((mmR 19), .inl (cI, 14, .inl mm_rowToldF)), ((mmR 20), .inl (cI, 14, .inl mm_sharpOfF)), ((mmR 17), .inl (cI, 2, .inl mm_coughToldF)), ((mmR 16), .inl (cI, 2, .inl mm_hushToldF)), ((mmR 15), .inl (cI, 2, .inl mm_voiceToldF))] := hD
              refine W.eq (g2 := F0 m 136 ls []) rfl ?_
              refine lv_goto (tgt := 202) hx hb dX12_statement_136 (by decide) ?_
              have e9 := Option.some.inj hf
              have e9_0 : r_27_0 = r0 := congrArg (fun t => t.1) e9
              have e9_1 : r_27_1 = r1 := congrArg (fun t => t.2.1) e9
              have e9_2 : mm_sumFromF = r2 := congrArg (fun t => t.2.2.1) e9
              have e9_3 : mm_frameF = r3 := congrArg (fun t => t.2.2.2.1) e9
              have e9_4 : mm_phaseF = r4 := congrArg (fun t => t.2.2.2.2.1) e9
              have e9_5 : mm_beginsF = r5 := congrArg (fun t => t.2.2.2.2.2.1) e9
              have e9_6 : mm_baseF = r6 := congrArg (fun t => t.2.2.2.2.2.2.1) e9
              have e9_7 : mm_opsF = r7 := congrArg (fun t => t.2.2.2.2.2.2.2.1) e9
              have e9_8 : mm_codeSortF = r8 := congrArg (fun t => t.2.2.2.2.2.2.2.2.1) e9
              have e9_9 : mm_codeValueF = r9 := congrArg (fun t => t.2.2.2.2.2.2.2.2.2.1) e9
              have e9_10 : mm_pairF = r10 := congrArg (fun t => t.2.2.2.2.2.2.2.2.2.2.1) e9
              have e9_11 : mm_sumBehindF = r11 := congrArg (fun t => t.2.2.2.2.2.2.2.2.2.2.2.1) e9
              have e9_12 : r_27_2 = r12 := congrArg (fun t => t.2.2.2.2.2.2.2.2.2.2.2.2.1) e9
              have e9_13 : mm_earsF = r13 := congrArg (fun t => t.2.2.2.2.2.2.2.2.2.2.2.2.2.1) e9
              have e9_14 : mm_earNameL = r14 := congrArg (fun t => t.2.2.2.2.2.2.2.2.2.2.2.2.2.2.1) e9
              have e9_15 : r_27_3 = r15 := congrArg (fun t => t.2.2.2.2.2.2.2.2.2.2.2.2.2.2.2.1) e9
              have e9_16 : r_27_4 = r16 := congrArg (fun t => t.2.2.2.2.2.2.2.2.2.2.2.2.2.2.2.2.1) e9
              have e9_17 : r_27_5 = r17 := congrArg (fun t => t.2.2.2.2.2.2.2.2.2.2.2.2.2.2.2.2.2.1) e9
              have e9_18 : mm_rowToldF = r18 := congrArg (fun t => t.2.2.2.2.2.2.2.2.2.2.2.2.2.2.2.2.2.2.1) e9
              have e9_19 : mm_sharpOfF = r19 := congrArg (fun t => t.2.2.2.2.2.2.2.2.2.2.2.2.2.2.2.2.2.2.2.1) e9
              have e9_20 : mm_coughToldF = r20 := congrArg (fun t => t.2.2.2.2.2.2.2.2.2.2.2.2.2.2.2.2.2.2.2.2.1) e9
              have e9_21 : mm_hushToldF = r21 := congrArg (fun t => t.2.2.2.2.2.2.2.2.2.2.2.2.2.2.2.2.2.2.2.2.2.1) e9
              have e9_22 : mm_voiceToldF = r22 := congrArg (fun t => t.2.2.2.2.2.2.2.2.2.2.2.2.2.2.2.2.2.2.2.2.2.2) e9
              clear e9 hf
              subst e9_0
              subst e9_1
              subst e9_2
              subst e9_3
              subst e9_4
              subst e9_5
              subst e9_6
              subst e9_7
              subst e9_8
              subst e9_9
              subst e9_10
              subst e9_11
              subst e9_12
              subst e9_13
              subst e9_14
              subst e9_15
              subst e9_16
              subst e9_17
              subst e9_18
              subst e9_19
              subst e9_20
              subst e9_21
              subst e9_22
              exact xq_vret hx hb hr hlocks hK hP hD hS dX12_statement_202
          · have hf := xq_neg hf c_
            refine lv_aload_n hx hb dX12_statement_115 rfl (lv_at hl 0 rfl) ?_
            obtain ⟨⟨r_29_0, r_29_1, r_29_2, r_29_3, r_29_4, r_29_5⟩, h_30, hf⟩ := xq_bd_some hf
            refine xq_callV (As := []) (rest := []) (ci := 12) (q0 := 0) ⟨hx, hb, hml, hown, hts⟩ (kX12_earing l dC dI cI cB cJ cZ cM z ad N a_p0 r_1 mmJ mmR mm_earsF mm_tapeF mm_earNameL mm_placesF mm_placeNameL mm_rowToldF mm_sharpOfF h_30) (cwV 0 hts gX12_statement_X12_earing rfl rfl rfl (by decide +kernel) ⟨Nat.le_of_ble_eq_true rfl, Nat.le_of_ble_eq_true rfl⟩) hN hK hP hD hS hA [0, 13, 2, 14, 12, 15, 19, 20] (by decide) rfl rfl rfl rfl rfl rfl hl.1 rfl (Nat.le_of_ble_eq_true rfl) dX12_statement_116 ⟨Nat.zero_le _, Nat.zero_le _⟩ (fun H locs hP hD hS => ?_)
            have hP : va_P (dC, dI) vwCl [(a_p0, .inr (12, oX12 r_29_0 r_29_1 mmR)), ((mmR 24), .inl (cI, 6, .inl mm_sumFromF)), ((mmR 0), .inl (cI, 1800, .inl mm_tapeF)), ((mmR 33), .inl (cI, 20, .inl mm_frameF)), ((mmR 34), .inl (cI, 20, .inl mm_phaseF)), ((mmR 35), .inl (cZ, 20, .inl mm_beginsF)), ((mmR 37), .inl (cI, 20, .inl mm_baseF)), ((mmR 40), .inl (cI, 500, .inl mm_opsF)), ((mmR 26), .inl (cI, 3200, .inl mm_codeSortF)), ((mmR 27), .inl (cI, 3200, .inl mm_codeValueF)), ((mmR 36), .inl (cI, 20, .inl mm_pairF)), ((mmR 25), .inl (cI, 6, .inl mm_sumBehindF)), ((mmR 21), .inl (cI, 2, .inl mm_placesF)), ((mmR 18), .inl (cI, 2, .inl r_29_2)), ((mmR 28), .inl (cJ, 14, .inr (.inl r_29_3))), ((mmR 29), .inl (cJ, 12, .inr (.inl mm_placeNameL))), ((mmR 14), .inl (cI, 2, .inl mm_milesToldF)), ((mmR 22), .inl (cI, 12, .inl mm_placeAtF)), ((mmR 23), .inl (cI, 12, .inl mm_talkToldF)), ((mmR 19), .inl (cI, 14, .inl r_29_4)), ((mmR 20), .inl (cI, 14, .inl r_29_5)), ((mmR 17), .inl (cI, 2, .inl mm_coughToldF)), ((mmR 16), .inl (cI, 2, .inl mm_hushToldF)), ((mmR 15), .inl (cI, 2, .inl mm_voiceToldF))] H := hP
            have hD : va_D A [(a_p0, .inr (12, oX12 r_29_0 r_29_1 mmR)), ((mmR 24), .inl (cI, 6, .inl mm_sumFromF)), ((mmR 0), .inl (cI, 1800, .inl mm_tapeF)), ((mmR 33), .inl (cI, 20, .inl mm_frameF)), ((mmR 34), .inl (cI, 20, .inl mm_phaseF)), ((mmR 35), .inl (cZ, 20, .inl mm_beginsF)), ((mmR 37), .inl (cI, 20, .inl mm_baseF)), ((mmR 40), .inl (cI, 500, .inl mm_opsF)), ((mmR 26), .inl (cI, 3200, .inl mm_codeSortF)), ((mmR 27), .inl (cI, 3200, .inl mm_codeValueF)), ((mmR 36), .inl (cI, 20, .inl mm_pairF)), ((mmR 25), .inl (cI, 6, .inl mm_sumBehindF)), ((mmR 21), .inl (cI, 2, .inl mm_placesF)), ((mmR 18), .inl (cI, 2, .inl r_29_2)), ((mmR 28), .inl (cJ, 14, .inr (.inl r_29_3))), ((mmR 29), .inl (cJ, 12, .inr (.inl mm_placeNameL))), ((mmR 14), .inl (cI, 2, .inl mm_milesToldF)), ((mmR 22), .inl (cI, 12, .inl mm_placeAtF)), ((mmR 23), .inl (cI, 12, .inl mm_talkToldF)), ((mmR 19), .inl (cI, 14, .inl r_29_4)), ((mmR 20), .inl (cI, 14, .inl r_29_5)), ((mmR 17), .inl (cI, 2, .inl mm_coughToldF)), ((mmR 16), .inl (cI, 2, .inl mm_hushToldF)), ((mmR 15), .inl (cI, 2, .inl mm_voiceToldF))] := hD
            refine W.eq (g2 := F0 m 119 ls []) rfl ?_
            refine lv_goto (tgt := 202) hx hb dX12_statement_119 (by decide) ?_
            have e9 := Option.some.inj hf
            have e9_0 : r_29_0 = r0 := congrArg (fun t => t.1) e9
            have e9_1 : r_29_1 = r1 := congrArg (fun t => t.2.1) e9
            have e9_2 : mm_sumFromF = r2 := congrArg (fun t => t.2.2.1) e9
            have e9_3 : mm_frameF = r3 := congrArg (fun t => t.2.2.2.1) e9
            have e9_4 : mm_phaseF = r4 := congrArg (fun t => t.2.2.2.2.1) e9
            have e9_5 : mm_beginsF = r5 := congrArg (fun t => t.2.2.2.2.2.1) e9
            have e9_6 : mm_baseF = r6 := congrArg (fun t => t.2.2.2.2.2.2.1) e9
            have e9_7 : mm_opsF = r7 := congrArg (fun t => t.2.2.2.2.2.2.2.1) e9
            have e9_8 : mm_codeSortF = r8 := congrArg (fun t => t.2.2.2.2.2.2.2.2.1) e9
            have e9_9 : mm_codeValueF = r9 := congrArg (fun t => t.2.2.2.2.2.2.2.2.2.1) e9
            have e9_10 : mm_pairF = r10 := congrArg (fun t => t.2.2.2.2.2.2.2.2.2.2.1) e9
            have e9_11 : mm_sumBehindF = r11 := congrArg (fun t => t.2.2.2.2.2.2.2.2.2.2.2.1) e9
            have e9_12 : mm_placesF = r12 := congrArg (fun t => t.2.2.2.2.2.2.2.2.2.2.2.2.1) e9
            have e9_13 : r_29_2 = r13 := congrArg (fun t => t.2.2.2.2.2.2.2.2.2.2.2.2.2.1) e9
            have e9_14 : r_29_3 = r14 := congrArg (fun t => t.2.2.2.2.2.2.2.2.2.2.2.2.2.2.1) e9
            have e9_15 : mm_placeNameL = r15 := congrArg (fun t => t.2.2.2.2.2.2.2.2.2.2.2.2.2.2.2.1) e9
            have e9_16 : mm_placeAtF = r16 := congrArg (fun t => t.2.2.2.2.2.2.2.2.2.2.2.2.2.2.2.2.1) e9
            have e9_17 : mm_talkToldF = r17 := congrArg (fun t => t.2.2.2.2.2.2.2.2.2.2.2.2.2.2.2.2.2.1) e9
            have e9_18 : r_29_4 = r18 := congrArg (fun t => t.2.2.2.2.2.2.2.2.2.2.2.2.2.2.2.2.2.2.1) e9
            have e9_19 : r_29_5 = r19 := congrArg (fun t => t.2.2.2.2.2.2.2.2.2.2.2.2.2.2.2.2.2.2.2.1) e9
            have e9_20 : mm_coughToldF = r20 := congrArg (fun t => t.2.2.2.2.2.2.2.2.2.2.2.2.2.2.2.2.2.2.2.2.1) e9
            have e9_21 : mm_hushToldF = r21 := congrArg (fun t => t.2.2.2.2.2.2.2.2.2.2.2.2.2.2.2.2.2.2.2.2.2.1) e9
            have e9_22 : mm_voiceToldF = r22 := congrArg (fun t => t.2.2.2.2.2.2.2.2.2.2.2.2.2.2.2.2.2.2.2.2.2.2) e9
            clear e9 hf
            subst e9_0
            subst e9_1
            subst e9_2
            subst e9_3
            subst e9_4
            subst e9_5
            subst e9_6
            subst e9_7
            subst e9_8
            subst e9_9
            subst e9_10
            subst e9_11
            subst e9_12
            subst e9_13
            subst e9_14
            subst e9_15
            subst e9_16
            subst e9_17
            subst e9_18
            subst e9_19
            subst e9_20
            subst e9_21
            subst e9_22
            exact xq_vret hx hb hr hlocks hK hP hD hS dX12_statement_202
        · have hf := xq_neg hf c_
          refine lv_aload_n hx hb dX12_statement_87 rfl (lv_at hl 0 rfl) ?_
          refine va_get (D := (dC, dI)) (ci := 12) (v := .ref ((mmR 17))) (C := RX12) (T := TX12) (N := 70) hx hb hts hinX12 hown hK hP 0 rfl rfl 17 (by decide) hw11 (fun _ h9 => h9) rfl dX12_statement_88 ?_
          refine lv_aload_n hx hb dX12_statement_91 rfl (lv_at hl 0 rfl) ?_
          refine va_get (D := (dC, dI)) (ci := 12) (v := .int (r_1 31)) (C := RX12) (T := TX12) (N := 70) hx hb hts hinX12 hown hK hP 0 rfl rfl 31 (by decide) hw12 (fun _ h9 => h9) rfl dX12_statement_92 ?_
          refine lv_aload_n hx hb dX12_statement_95 rfl (lv_at hl 0 rfl) ?_
          refine lv_bipush (v := 100) hx hb dX12_statement_96 (by decide) ?_
          obtain ⟨⟨r_31_0, r_31_1, r_31_2⟩, h_32, hf⟩ := xq_bd_some hf
          refine xq_callV (As := [.int 100]) (rest := [.int (r_1 31), .ref ((mmR 17))]) (ci := 12) (q0 := 0) ⟨hx, hb, hml, hown, hts⟩ (kX12_telling l dC dI cI cB cJ cZ cM z ad N a_p0 r_1 mmJ mmR mm_tapeF 100 h_32) (cwV 1 hts gX12_statement_X12_telling rfl rfl rfl (by decide +kernel) ⟨Nat.le_of_ble_eq_true rfl, Nat.le_of_ble_eq_true rfl⟩) hN hK hP hD hS hA [0, 2] (by decide) rfl rfl rfl rfl rfl rfl hl.1 rfl (Nat.le_of_ble_eq_true rfl) dX12_statement_98 ⟨Nat.zero_le _, Nat.zero_le _⟩ (fun H locs hP hD hS => ?_)
          have hP : va_P (dC, dI) vwCl [(a_p0, .inr (12, oX12 r_31_1 r_31_2 mmR)), ((mmR 24), .inl (cI, 6, .inl mm_sumFromF)), ((mmR 0), .inl (cI, 1800, .inl mm_tapeF)), ((mmR 33), .inl (cI, 20, .inl mm_frameF)), ((mmR 34), .inl (cI, 20, .inl mm_phaseF)), ((mmR 35), .inl (cZ, 20, .inl mm_beginsF)), ((mmR 37), .inl (cI, 20, .inl mm_baseF)), ((mmR 40), .inl (cI, 500, .inl mm_opsF)), ((mmR 26), .inl (cI, 3200, .inl mm_codeSortF)), ((mmR 27), .inl (cI, 3200, .inl mm_codeValueF)), ((mmR 36), .inl (cI, 20, .inl mm_pairF)), ((mmR 25), .inl (cI, 6, .inl mm_sumBehindF)), ((mmR 21), .inl (cI, 2, .inl mm_placesF)), ((mmR 18), .inl (cI, 2, .inl mm_earsF)), ((mmR 28), .inl (cJ, 14, .inr (.inl mm_earNameL))), ((mmR 29), .inl (cJ, 12, .inr (.inl mm_placeNameL))), ((mmR 14), .inl (cI, 2, .inl mm_milesToldF)), ((mmR 22), .inl (cI, 12, .inl mm_placeAtF)), ((mmR 23), .inl (cI, 12, .inl mm_talkToldF)), ((mmR 19), .inl (cI, 14, .inl mm_rowToldF)), ((mmR 20), .inl (cI, 14, .inl mm_sharpOfF)), ((mmR 17), .inl (cI, 2, .inl mm_coughToldF)), ((mmR 16), .inl (cI, 2, .inl mm_hushToldF)), ((mmR 15), .inl (cI, 2, .inl mm_voiceToldF))] H := hP
          have hD : va_D A [(a_p0, .inr (12, oX12 r_31_1 r_31_2 mmR)), ((mmR 24), .inl (cI, 6, .inl mm_sumFromF)), ((mmR 0), .inl (cI, 1800, .inl mm_tapeF)), ((mmR 33), .inl (cI, 20, .inl mm_frameF)), ((mmR 34), .inl (cI, 20, .inl mm_phaseF)), ((mmR 35), .inl (cZ, 20, .inl mm_beginsF)), ((mmR 37), .inl (cI, 20, .inl mm_baseF)), ((mmR 40), .inl (cI, 500, .inl mm_opsF)), ((mmR 26), .inl (cI, 3200, .inl mm_codeSortF)), ((mmR 27), .inl (cI, 3200, .inl mm_codeValueF)), ((mmR 36), .inl (cI, 20, .inl mm_pairF)), ((mmR 25), .inl (cI, 6, .inl mm_sumBehindF)), ((mmR 21), .inl (cI, 2, .inl mm_placesF)), ((mmR 18), .inl (cI, 2, .inl mm_earsF)), ((mmR 28), .inl (cJ, 14, .inr (.inl mm_earNameL))), ((mmR 29), .inl (cJ, 12, .inr (.inl mm_placeNameL))), ((mmR 14), .inl (cI, 2, .inl mm_milesToldF)), ((mmR 22), .inl (cI, 12, .inl mm_placeAtF)), ((mmR 23), .inl (cI, 12, .inl mm_talkToldF)), ((mmR 19), .inl (cI, 14, .inl mm_rowToldF)), ((mmR 20), .inl (cI, 14, .inl mm_sharpOfF)), ((mmR 17), .inl (cI, 2, .inl mm_coughToldF)), ((mmR 16), .inl (cI, 2, .inl mm_hushToldF)), ((mmR 15), .inl (cI, 2, .inl mm_voiceToldF))] := hD
          refine W.eq (g2 := F0 m 101 ls [.int r_31_0, .int (r_1 31), .ref ((mmR 17))]) rfl ?_
          refine xq_iast hx hb hK hP hD hS 21 0 rfl rfl hf dX12_statement_101 (fun g_33 H locs hf hP hD hS => ?_)
          have hP : va_P (dC, dI) vwCl [(a_p0, .inr (12, oX12 r_31_1 r_31_2 mmR)), ((mmR 24), .inl (cI, 6, .inl mm_sumFromF)), ((mmR 0), .inl (cI, 1800, .inl mm_tapeF)), ((mmR 33), .inl (cI, 20, .inl mm_frameF)), ((mmR 34), .inl (cI, 20, .inl mm_phaseF)), ((mmR 35), .inl (cZ, 20, .inl mm_beginsF)), ((mmR 37), .inl (cI, 20, .inl mm_baseF)), ((mmR 40), .inl (cI, 500, .inl mm_opsF)), ((mmR 26), .inl (cI, 3200, .inl mm_codeSortF)), ((mmR 27), .inl (cI, 3200, .inl mm_codeValueF)), ((mmR 36), .inl (cI, 20, .inl mm_pairF)), ((mmR 25), .inl (cI, 6, .inl mm_sumBehindF)), ((mmR 21), .inl (cI, 2, .inl mm_placesF)), ((mmR 18), .inl (cI, 2, .inl mm_earsF)), ((mmR 28), .inl (cJ, 14, .inr (.inl mm_earNameL))), ((mmR 29), .inl (cJ, 12, .inr (.inl mm_placeNameL))), ((mmR 14), .inl (cI, 2, .inl mm_milesToldF)), ((mmR 22), .inl (cI, 12, .inl mm_placeAtF)), ((mmR 23), .inl (cI, 12, .inl mm_talkToldF)), ((mmR 19), .inl (cI, 14, .inl mm_rowToldF)), ((mmR 20), .inl (cI, 14, .inl mm_sharpOfF)), ((mmR 17), .inl (cI, 2, .inl g_33)), ((mmR 16), .inl (cI, 2, .inl mm_hushToldF)), ((mmR 15), .inl (cI, 2, .inl mm_voiceToldF))] H := hP
          have hD : va_D A [(a_p0, .inr (12, oX12 r_31_1 r_31_2 mmR)), ((mmR 24), .inl (cI, 6, .inl mm_sumFromF)), ((mmR 0), .inl (cI, 1800, .inl mm_tapeF)), ((mmR 33), .inl (cI, 20, .inl mm_frameF)), ((mmR 34), .inl (cI, 20, .inl mm_phaseF)), ((mmR 35), .inl (cZ, 20, .inl mm_beginsF)), ((mmR 37), .inl (cI, 20, .inl mm_baseF)), ((mmR 40), .inl (cI, 500, .inl mm_opsF)), ((mmR 26), .inl (cI, 3200, .inl mm_codeSortF)), ((mmR 27), .inl (cI, 3200, .inl mm_codeValueF)), ((mmR 36), .inl (cI, 20, .inl mm_pairF)), ((mmR 25), .inl (cI, 6, .inl mm_sumBehindF)), ((mmR 21), .inl (cI, 2, .inl mm_placesF)), ((mmR 18), .inl (cI, 2, .inl mm_earsF)), ((mmR 28), .inl (cJ, 14, .inr (.inl mm_earNameL))), ((mmR 29), .inl (cJ, 12, .inr (.inl mm_placeNameL))), ((mmR 14), .inl (cI, 2, .inl mm_milesToldF)), ((mmR 22), .inl (cI, 12, .inl mm_placeAtF)), ((mmR 23), .inl (cI, 12, .inl mm_talkToldF)), ((mmR 19), .inl (cI, 14, .inl mm_rowToldF)), ((mmR 20), .inl (cI, 14, .inl mm_sharpOfF)), ((mmR 17), .inl (cI, 2, .inl g_33)), ((mmR 16), .inl (cI, 2, .inl mm_hushToldF)), ((mmR 15), .inl (cI, 2, .inl mm_voiceToldF))] := hD
          refine lv_goto (tgt := 202) hx hb dX12_statement_102 (by decide) ?_
          have e9 := Option.some.inj hf
          have e9_0 : r_31_1 = r0 := congrArg (fun t => t.1) e9
          have e9_1 : r_31_2 = r1 := congrArg (fun t => t.2.1) e9
          have e9_2 : mm_sumFromF = r2 := congrArg (fun t => t.2.2.1) e9
          have e9_3 : mm_frameF = r3 := congrArg (fun t => t.2.2.2.1) e9
          have e9_4 : mm_phaseF = r4 := congrArg (fun t => t.2.2.2.2.1) e9
          have e9_5 : mm_beginsF = r5 := congrArg (fun t => t.2.2.2.2.2.1) e9
          have e9_6 : mm_baseF = r6 := congrArg (fun t => t.2.2.2.2.2.2.1) e9
          have e9_7 : mm_opsF = r7 := congrArg (fun t => t.2.2.2.2.2.2.2.1) e9
          have e9_8 : mm_codeSortF = r8 := congrArg (fun t => t.2.2.2.2.2.2.2.2.1) e9
          have e9_9 : mm_codeValueF = r9 := congrArg (fun t => t.2.2.2.2.2.2.2.2.2.1) e9
          have e9_10 : mm_pairF = r10 := congrArg (fun t => t.2.2.2.2.2.2.2.2.2.2.1) e9
          have e9_11 : mm_sumBehindF = r11 := congrArg (fun t => t.2.2.2.2.2.2.2.2.2.2.2.1) e9
          have e9_12 : mm_placesF = r12 := congrArg (fun t => t.2.2.2.2.2.2.2.2.2.2.2.2.1) e9
          have e9_13 : mm_earsF = r13 := congrArg (fun t => t.2.2.2.2.2.2.2.2.2.2.2.2.2.1) e9
          have e9_14 : mm_earNameL = r14 := congrArg (fun t => t.2.2.2.2.2.2.2.2.2.2.2.2.2.2.1) e9
          have e9_15 : mm_placeNameL = r15 := congrArg (fun t => t.2.2.2.2.2.2.2.2.2.2.2.2.2.2.2.1) e9
          have e9_16 : mm_placeAtF = r16 := congrArg (fun t => t.2.2.2.2.2.2.2.2.2.2.2.2.2.2.2.2.1) e9
          have e9_17 : mm_talkToldF = r17 := congrArg (fun t => t.2.2.2.2.2.2.2.2.2.2.2.2.2.2.2.2.2.1) e9
          have e9_18 : mm_rowToldF = r18 := congrArg (fun t => t.2.2.2.2.2.2.2.2.2.2.2.2.2.2.2.2.2.2.1) e9
          have e9_19 : mm_sharpOfF = r19 := congrArg (fun t => t.2.2.2.2.2.2.2.2.2.2.2.2.2.2.2.2.2.2.2.1) e9
          have e9_20 : g_33 = r20 := congrArg (fun t => t.2.2.2.2.2.2.2.2.2.2.2.2.2.2.2.2.2.2.2.2.1) e9
          have e9_21 : mm_hushToldF = r21 := congrArg (fun t => t.2.2.2.2.2.2.2.2.2.2.2.2.2.2.2.2.2.2.2.2.2.1) e9
          have e9_22 : mm_voiceToldF = r22 := congrArg (fun t => t.2.2.2.2.2.2.2.2.2.2.2.2.2.2.2.2.2.2.2.2.2.2) e9
          clear e9 hf
          subst e9_0
          subst e9_1
          subst e9_2
          subst e9_3
          subst e9_4
          subst e9_5
          subst e9_6
          subst e9_7
          subst e9_8
          subst e9_9
          subst e9_10
          subst e9_11
          subst e9_12
          subst e9_13
          subst e9_14
          subst e9_15
          subst e9_16
          subst e9_17
          subst e9_18
          subst e9_19
          subst e9_20
          subst e9_21
          subst e9_22
          exact xq_vret hx hb hr hlocks hK hP hD hS dX12_statement_202
      · have hf := xq_neg hf c_
        refine lv_aload_n hx hb dX12_statement_59 rfl (lv_at hl 0 rfl) ?_
        refine va_get (D := (dC, dI)) (ci := 12) (v := .ref ((mmR 16))) (C := RX12) (T := TX12) (N := 70) hx hb hts hinX12 hown hK hP 0 rfl rfl 16 (by decide) hw13 (fun _ h9 => h9) rfl dX12_statement_60 ?_
        refine lv_aload_n hx hb dX12_statement_63 rfl (lv_at hl 0 rfl) ?_
        refine va_get (D := (dC, dI)) (ci := 12) (v := .int (r_1 31)) (C := RX12) (T := TX12) (N := 70) hx hb hts hinX12 hown hK hP 0 rfl rfl 31 (by decide) hw12 (fun _ h9 => h9) rfl dX12_statement_64 ?_
        refine lv_aload_n hx hb dX12_statement_67 rfl (lv_at hl 0 rfl) ?_
        refine lv_bipush (v := 9) hx hb dX12_statement_68 (by decide) ?_
        obtain ⟨⟨r_34_0, r_34_1, r_34_2⟩, h_35, hf⟩ := xq_bd_some hf
        refine xq_callV (As := [.int 9]) (rest := [.int (r_1 31), .ref ((mmR 16))]) (ci := 12) (q0 := 0) ⟨hx, hb, hml, hown, hts⟩ (kX12_telling l dC dI cI cB cJ cZ cM z ad N a_p0 r_1 mmJ mmR mm_tapeF 9 h_35) (cwV 1 hts gX12_statement_X12_telling rfl rfl rfl (by decide +kernel) ⟨Nat.le_of_ble_eq_true rfl, Nat.le_of_ble_eq_true rfl⟩) hN hK hP hD hS hA [0, 2] (by decide) rfl rfl rfl rfl rfl rfl hl.1 rfl (Nat.le_of_ble_eq_true rfl) dX12_statement_70 ⟨Nat.zero_le _, Nat.zero_le _⟩ (fun H locs hP hD hS => ?_)
        have hP : va_P (dC, dI) vwCl [(a_p0, .inr (12, oX12 r_34_1 r_34_2 mmR)), ((mmR 24), .inl (cI, 6, .inl mm_sumFromF)), ((mmR 0), .inl (cI, 1800, .inl mm_tapeF)), ((mmR 33), .inl (cI, 20, .inl mm_frameF)), ((mmR 34), .inl (cI, 20, .inl mm_phaseF)), ((mmR 35), .inl (cZ, 20, .inl mm_beginsF)), ((mmR 37), .inl (cI, 20, .inl mm_baseF)), ((mmR 40), .inl (cI, 500, .inl mm_opsF)), ((mmR 26), .inl (cI, 3200, .inl mm_codeSortF)), ((mmR 27), .inl (cI, 3200, .inl mm_codeValueF)), ((mmR 36), .inl (cI, 20, .inl mm_pairF)), ((mmR 25), .inl (cI, 6, .inl mm_sumBehindF)), ((mmR 21), .inl (cI, 2, .inl mm_placesF)), ((mmR 18), .inl (cI, 2, .inl mm_earsF)), ((mmR 28), .inl (cJ, 14, .inr (.inl mm_earNameL))), ((mmR 29), .inl (cJ, 12, .inr (.inl mm_placeNameL))), ((mmR 14), .inl (cI, 2, .inl mm_milesToldF)), ((mmR 22), .inl (cI, 12, .inl mm_placeAtF)), ((mmR 23), .inl (cI, 12, .inl mm_talkToldF)), ((mmR 19), .inl (cI, 14, .inl mm_rowToldF)), ((mmR 20), .inl (cI, 14, .inl mm_sharpOfF)), ((mmR 17), .inl (cI, 2, .inl mm_coughToldF)), ((mmR 16), .inl (cI, 2, .inl mm_hushToldF)), ((mmR 15), .inl (cI, 2, .inl mm_voiceToldF))] H := hP
        have hD : va_D A [(a_p0, .inr (12, oX12 r_34_1 r_34_2 mmR)), ((mmR 24), .inl (cI, 6, .inl mm_sumFromF)), ((mmR 0), .inl (cI, 1800, .inl mm_tapeF)), ((mmR 33), .inl (cI, 20, .inl mm_frameF)), ((mmR 34), .inl (cI, 20, .inl mm_phaseF)), ((mmR 35), .inl (cZ, 20, .inl mm_beginsF)), ((mmR 37), .inl (cI, 20, .inl mm_baseF)), ((mmR 40), .inl (cI, 500, .inl mm_opsF)), ((mmR 26), .inl (cI, 3200, .inl mm_codeSortF)), ((mmR 27), .inl (cI, 3200, .inl mm_codeValueF)), ((mmR 36), .inl (cI, 20, .inl mm_pairF)), ((mmR 25), .inl (cI, 6, .inl mm_sumBehindF)), ((mmR 21), .inl (cI, 2, .inl mm_placesF)), ((mmR 18), .inl (cI, 2, .inl mm_earsF)), ((mmR 28), .inl (cJ, 14, .inr (.inl mm_earNameL))), ((mmR 29), .inl (cJ, 12, .inr (.inl mm_placeNameL))), ((mmR 14), .inl (cI, 2, .inl mm_milesToldF)), ((mmR 22), .inl (cI, 12, .inl mm_placeAtF)), ((mmR 23), .inl (cI, 12, .inl mm_talkToldF)), ((mmR 19), .inl (cI, 14, .inl mm_rowToldF)), ((mmR 20), .inl (cI, 14, .inl mm_sharpOfF)), ((mmR 17), .inl (cI, 2, .inl mm_coughToldF)), ((mmR 16), .inl (cI, 2, .inl mm_hushToldF)), ((mmR 15), .inl (cI, 2, .inl mm_voiceToldF))] := hD
        refine W.eq (g2 := F0 m 73 ls [.int r_34_0, .int (r_1 31), .ref ((mmR 16))]) rfl ?_
        refine xq_iast hx hb hK hP hD hS 22 0 rfl rfl hf dX12_statement_73 (fun g_36 H locs hf hP hD hS => ?_)
        have hP : va_P (dC, dI) vwCl [(a_p0, .inr (12, oX12 r_34_1 r_34_2 mmR)), ((mmR 24), .inl (cI, 6, .inl mm_sumFromF)), ((mmR 0), .inl (cI, 1800, .inl mm_tapeF)), ((mmR 33), .inl (cI, 20, .inl mm_frameF)), ((mmR 34), .inl (cI, 20, .inl mm_phaseF)), ((mmR 35), .inl (cZ, 20, .inl mm_beginsF)), ((mmR 37), .inl (cI, 20, .inl mm_baseF)), ((mmR 40), .inl (cI, 500, .inl mm_opsF)), ((mmR 26), .inl (cI, 3200, .inl mm_codeSortF)), ((mmR 27), .inl (cI, 3200, .inl mm_codeValueF)), ((mmR 36), .inl (cI, 20, .inl mm_pairF)), ((mmR 25), .inl (cI, 6, .inl mm_sumBehindF)), ((mmR 21), .inl (cI, 2, .inl mm_placesF)), ((mmR 18), .inl (cI, 2, .inl mm_earsF)), ((mmR 28), .inl (cJ, 14, .inr (.inl mm_earNameL))), ((mmR 29), .inl (cJ, 12, .inr (.inl mm_placeNameL))), ((mmR 14), .inl (cI, 2, .inl mm_milesToldF)), ((mmR 22), .inl (cI, 12, .inl mm_placeAtF)), ((mmR 23), .inl (cI, 12, .inl mm_talkToldF)), ((mmR 19), .inl (cI, 14, .inl mm_rowToldF)), ((mmR 20), .inl (cI, 14, .inl mm_sharpOfF)), ((mmR 17), .inl (cI, 2, .inl mm_coughToldF)), ((mmR 16), .inl (cI, 2, .inl g_36)), ((mmR 15), .inl (cI, 2, .inl mm_voiceToldF))] H := hP
        have hD : va_D A [(a_p0, .inr (12, oX12 r_34_1 r_34_2 mmR)), ((mmR 24), .inl (cI, 6, .inl mm_sumFromF)), ((mmR 0), .inl (cI, 1800, .inl mm_tapeF)), ((mmR 33), .inl (cI, 20, .inl mm_frameF)), ((mmR 34), .inl (cI, 20, .inl mm_phaseF)), ((mmR 35), .inl (cZ, 20, .inl mm_beginsF)), ((mmR 37), .inl (cI, 20, .inl mm_baseF)), ((mmR 40), .inl (cI, 500, .inl mm_opsF)), ((mmR 26), .inl (cI, 3200, .inl mm_codeSortF)), ((mmR 27), .inl (cI, 3200, .inl mm_codeValueF)), ((mmR 36), .inl (cI, 20, .inl mm_pairF)), ((mmR 25), .inl (cI, 6, .inl mm_sumBehindF)), ((mmR 21), .inl (cI, 2, .inl mm_placesF)), ((mmR 18), .inl (cI, 2, .inl mm_earsF)), ((mmR 28), .inl (cJ, 14, .inr (.inl mm_earNameL))), ((mmR 29), .inl (cJ, 12, .inr (.inl mm_placeNameL))), ((mmR 14), .inl (cI, 2, .inl mm_milesToldF)), ((mmR 22), .inl (cI, 12, .inl mm_placeAtF)), ((mmR 23), .inl (cI, 12, .inl mm_talkToldF)), ((mmR 19), .inl (cI, 14, .inl mm_rowToldF)), ((mmR 20), .inl (cI, 14, .inl mm_sharpOfF)), ((mmR 17), .inl (cI, 2, .inl mm_coughToldF)), ((mmR 16), .inl (cI, 2, .inl g_36)), ((mmR 15), .inl (cI, 2, .inl mm_voiceToldF))] := hD
        refine lv_goto (tgt := 202) hx hb dX12_statement_74 (by decide) ?_
        have e9 := Option.some.inj hf
        have e9_0 : r_34_1 = r0 := congrArg (fun t => t.1) e9
        have e9_1 : r_34_2 = r1 := congrArg (fun t => t.2.1) e9
        have e9_2 : mm_sumFromF = r2 := congrArg (fun t => t.2.2.1) e9
        have e9_3 : mm_frameF = r3 := congrArg (fun t => t.2.2.2.1) e9
        have e9_4 : mm_phaseF = r4 := congrArg (fun t => t.2.2.2.2.1) e9
        have e9_5 : mm_beginsF = r5 := congrArg (fun t => t.2.2.2.2.2.1) e9
        have e9_6 : mm_baseF = r6 := congrArg (fun t => t.2.2.2.2.2.2.1) e9
        have e9_7 : mm_opsF = r7 := congrArg (fun t => t.2.2.2.2.2.2.2.1) e9
        have e9_8 : mm_codeSortF = r8 := congrArg (fun t => t.2.2.2.2.2.2.2.2.1) e9
        have e9_9 : mm_codeValueF = r9 := congrArg (fun t => t.2.2.2.2.2.2.2.2.2.1) e9
        have e9_10 : mm_pairF = r10 := congrArg (fun t => t.2.2.2.2.2.2.2.2.2.2.1) e9
        have e9_11 : mm_sumBehindF = r11 := congrArg (fun t => t.2.2.2.2.2.2.2.2.2.2.2.1) e9
        have e9_12 : mm_placesF = r12 := congrArg (fun t => t.2.2.2.2.2.2.2.2.2.2.2.2.1) e9
        have e9_13 : mm_earsF = r13 := congrArg (fun t => t.2.2.2.2.2.2.2.2.2.2.2.2.2.1) e9
        have e9_14 : mm_earNameL = r14 := congrArg (fun t => t.2.2.2.2.2.2.2.2.2.2.2.2.2.2.1) e9
        have e9_15 : mm_placeNameL = r15 := congrArg (fun t => t.2.2.2.2.2.2.2.2.2.2.2.2.2.2.2.1) e9
        have e9_16 : mm_placeAtF = r16 := congrArg (fun t => t.2.2.2.2.2.2.2.2.2.2.2.2.2.2.2.2.1) e9
        have e9_17 : mm_talkToldF = r17 := congrArg (fun t => t.2.2.2.2.2.2.2.2.2.2.2.2.2.2.2.2.2.1) e9
        have e9_18 : mm_rowToldF = r18 := congrArg (fun t => t.2.2.2.2.2.2.2.2.2.2.2.2.2.2.2.2.2.2.1) e9
        have e9_19 : mm_sharpOfF = r19 := congrArg (fun t => t.2.2.2.2.2.2.2.2.2.2.2.2.2.2.2.2.2.2.2.1) e9
        have e9_20 : mm_coughToldF = r20 := congrArg (fun t => t.2.2.2.2.2.2.2.2.2.2.2.2.2.2.2.2.2.2.2.2.1) e9
        have e9_21 : g_36 = r21 := congrArg (fun t => t.2.2.2.2.2.2.2.2.2.2.2.2.2.2.2.2.2.2.2.2.2.1) e9
        have e9_22 : mm_voiceToldF = r22 := congrArg (fun t => t.2.2.2.2.2.2.2.2.2.2.2.2.2.2.2.2.2.2.2.2.2.2) e9
        clear e9 hf
        subst e9_0
        subst e9_1
        subst e9_2
        subst e9_3
        subst e9_4
        subst e9_5
        subst e9_6
        subst e9_7
        subst e9_8
        subst e9_9
        subst e9_10
        subst e9_11
        subst e9_12
        subst e9_13
        subst e9_14
        subst e9_15
        subst e9_16
        subst e9_17
        subst e9_18
        subst e9_19
        subst e9_20
        subst e9_21
        subst e9_22
        exact xq_vret hx hb hr hlocks hK hP hD hS dX12_statement_202
    · have hf := xq_neg hf c_
      refine lv_aload_n hx hb dX12_statement_22 rfl (lv_at hl 0 rfl) ?_
      refine va_get (D := (dC, dI)) (ci := 12) (v := .ref ((mmR 15))) (C := RX12) (T := TX12) (N := 70) hx hb hts hinX12 hown hK hP 0 rfl rfl 15 (by decide) hw14 (fun _ h9 => h9) rfl dX12_statement_23 ?_
      refine lv_aload_n hx hb dX12_statement_26 rfl (lv_at hl 0 rfl) ?_
      refine va_get (D := (dC, dI)) (ci := 12) (v := .int (r_1 31)) (C := RX12) (T := TX12) (N := 70) hx hb hts hinX12 hown hK hP 0 rfl rfl 31 (by decide) hw12 (fun _ h9 => h9) rfl dX12_statement_27 ?_
      refine lv_aload_n hx hb dX12_statement_30 rfl (lv_at hl 0 rfl) ?_
      refine lv_aload_n hx hb dX12_statement_31 rfl (lv_at hl 0 rfl) ?_
      refine va_get (D := (dC, dI)) (ci := 12) (v := .ref ((mmR 14))) (C := RX12) (T := TX12) (N := 70) hx hb hts hinX12 hown hK hP 0 rfl rfl 14 (by decide) hw15 (fun _ h9 => h9) rfl dX12_statement_32 ?_
      refine lv_aload_n hx hb dX12_statement_35 rfl (lv_at hl 0 rfl) ?_
      refine va_get (D := (dC, dI)) (ci := 12) (v := .int (r_1 31)) (C := RX12) (T := TX12) (N := 70) hx hb hts hinX12 hown hK hP 0 rfl rfl 31 (by decide) hw12 (fun _ h9 => h9) rfl dX12_statement_36 ?_
      refine xq_iald hx hb hK hP 16 0 rfl rfl hf dX12_statement_39 (fun v_37 hf => ?_)
      refine lv_iconst (v := 1) hx hb dX12_statement_40 (by decide) ?_
      refine lv_isub hx hb dX12_statement_41 ?_
      obtain ⟨⟨r_38_0, r_38_1, r_38_2⟩, h_39, hf⟩ := xq_bd_some hf
      refine xq_callV (As := [.int (v_37 - 1)]) (rest := [.int (r_1 31), .ref ((mmR 15))]) (ci := 12) (q0 := 0) ⟨hx, hb, hml, hown, hts⟩ (kX12_telling l dC dI cI cB cJ cZ cM z ad N a_p0 r_1 mmJ mmR mm_tapeF (v_37 - 1) h_39) (cwV 1 hts gX12_statement_X12_telling rfl rfl rfl (by decide +kernel) ⟨Nat.le_of_ble_eq_true rfl, Nat.le_of_ble_eq_true rfl⟩) hN hK hP hD hS hA [0, 2] (by decide) rfl rfl rfl rfl rfl rfl hl.1 rfl (Nat.le_of_ble_eq_true rfl) dX12_statement_42 ⟨Nat.zero_le _, Nat.zero_le _⟩ (fun H locs hP hD hS => ?_)
      have hP : va_P (dC, dI) vwCl [(a_p0, .inr (12, oX12 r_38_1 r_38_2 mmR)), ((mmR 24), .inl (cI, 6, .inl mm_sumFromF)), ((mmR 0), .inl (cI, 1800, .inl mm_tapeF)), ((mmR 33), .inl (cI, 20, .inl mm_frameF)), ((mmR 34), .inl (cI, 20, .inl mm_phaseF)), ((mmR 35), .inl (cZ, 20, .inl mm_beginsF)), ((mmR 37), .inl (cI, 20, .inl mm_baseF)), ((mmR 40), .inl (cI, 500, .inl mm_opsF)), ((mmR 26), .inl (cI, 3200, .inl mm_codeSortF)), ((mmR 27), .inl (cI, 3200, .inl mm_codeValueF)), ((mmR 36), .inl (cI, 20, .inl mm_pairF)), ((mmR 25), .inl (cI, 6, .inl mm_sumBehindF)), ((mmR 21), .inl (cI, 2, .inl mm_placesF)), ((mmR 18), .inl (cI, 2, .inl mm_earsF)), ((mmR 28), .inl (cJ, 14, .inr (.inl mm_earNameL))), ((mmR 29), .inl (cJ, 12, .inr (.inl mm_placeNameL))), ((mmR 14), .inl (cI, 2, .inl mm_milesToldF)), ((mmR 22), .inl (cI, 12, .inl mm_placeAtF)), ((mmR 23), .inl (cI, 12, .inl mm_talkToldF)), ((mmR 19), .inl (cI, 14, .inl mm_rowToldF)), ((mmR 20), .inl (cI, 14, .inl mm_sharpOfF)), ((mmR 17), .inl (cI, 2, .inl mm_coughToldF)), ((mmR 16), .inl (cI, 2, .inl mm_hushToldF)), ((mmR 15), .inl (cI, 2, .inl mm_voiceToldF))] H := hP
      have hD : va_D A [(a_p0, .inr (12, oX12 r_38_1 r_38_2 mmR)), ((mmR 24), .inl (cI, 6, .inl mm_sumFromF)), ((mmR 0), .inl (cI, 1800, .inl mm_tapeF)), ((mmR 33), .inl (cI, 20, .inl mm_frameF)), ((mmR 34), .inl (cI, 20, .inl mm_phaseF)), ((mmR 35), .inl (cZ, 20, .inl mm_beginsF)), ((mmR 37), .inl (cI, 20, .inl mm_baseF)), ((mmR 40), .inl (cI, 500, .inl mm_opsF)), ((mmR 26), .inl (cI, 3200, .inl mm_codeSortF)), ((mmR 27), .inl (cI, 3200, .inl mm_codeValueF)), ((mmR 36), .inl (cI, 20, .inl mm_pairF)), ((mmR 25), .inl (cI, 6, .inl mm_sumBehindF)), ((mmR 21), .inl (cI, 2, .inl mm_placesF)), ((mmR 18), .inl (cI, 2, .inl mm_earsF)), ((mmR 28), .inl (cJ, 14, .inr (.inl mm_earNameL))), ((mmR 29), .inl (cJ, 12, .inr (.inl mm_placeNameL))), ((mmR 14), .inl (cI, 2, .inl mm_milesToldF)), ((mmR 22), .inl (cI, 12, .inl mm_placeAtF)), ((mmR 23), .inl (cI, 12, .inl mm_talkToldF)), ((mmR 19), .inl (cI, 14, .inl mm_rowToldF)), ((mmR 20), .inl (cI, 14, .inl mm_sharpOfF)), ((mmR 17), .inl (cI, 2, .inl mm_coughToldF)), ((mmR 16), .inl (cI, 2, .inl mm_hushToldF)), ((mmR 15), .inl (cI, 2, .inl mm_voiceToldF))] := hD
      refine W.eq (g2 := F0 m 45 ls [.int r_38_0, .int (r_1 31), .ref ((mmR 15))]) rfl ?_
      refine xq_iast hx hb hK hP hD hS 23 0 rfl rfl hf dX12_statement_45 (fun g_40 H locs hf hP hD hS => ?_)
      have hP : va_P (dC, dI) vwCl [(a_p0, .inr (12, oX12 r_38_1 r_38_2 mmR)), ((mmR 24), .inl (cI, 6, .inl mm_sumFromF)), ((mmR 0), .inl (cI, 1800, .inl mm_tapeF)), ((mmR 33), .inl (cI, 20, .inl mm_frameF)), ((mmR 34), .inl (cI, 20, .inl mm_phaseF)), ((mmR 35), .inl (cZ, 20, .inl mm_beginsF)), ((mmR 37), .inl (cI, 20, .inl mm_baseF)), ((mmR 40), .inl (cI, 500, .inl mm_opsF)), ((mmR 26), .inl (cI, 3200, .inl mm_codeSortF)), ((mmR 27), .inl (cI, 3200, .inl mm_codeValueF)), ((mmR 36), .inl (cI, 20, .inl mm_pairF)), ((mmR 25), .inl (cI, 6, .inl mm_sumBehindF)), ((mmR 21), .inl (cI, 2, .inl mm_placesF)), ((mmR 18), .inl (cI, 2, .inl mm_earsF)), ((mmR 28), .inl (cJ, 14, .inr (.inl mm_earNameL))), ((mmR 29), .inl (cJ, 12, .inr (.inl mm_placeNameL))), ((mmR 14), .inl (cI, 2, .inl mm_milesToldF)), ((mmR 22), .inl (cI, 12, .inl mm_placeAtF)), ((mmR 23), .inl (cI, 12, .inl mm_talkToldF)), ((mmR 19), .inl (cI, 14, .inl mm_rowToldF)), ((mmR 20), .inl (cI, 14, .inl mm_sharpOfF)), ((mmR 17), .inl (cI, 2, .inl mm_coughToldF)), ((mmR 16), .inl (cI, 2, .inl mm_hushToldF)), ((mmR 15), .inl (cI, 2, .inl g_40))] H := hP
      have hD : va_D A [(a_p0, .inr (12, oX12 r_38_1 r_38_2 mmR)), ((mmR 24), .inl (cI, 6, .inl mm_sumFromF)), ((mmR 0), .inl (cI, 1800, .inl mm_tapeF)), ((mmR 33), .inl (cI, 20, .inl mm_frameF)), ((mmR 34), .inl (cI, 20, .inl mm_phaseF)), ((mmR 35), .inl (cZ, 20, .inl mm_beginsF)), ((mmR 37), .inl (cI, 20, .inl mm_baseF)), ((mmR 40), .inl (cI, 500, .inl mm_opsF)), ((mmR 26), .inl (cI, 3200, .inl mm_codeSortF)), ((mmR 27), .inl (cI, 3200, .inl mm_codeValueF)), ((mmR 36), .inl (cI, 20, .inl mm_pairF)), ((mmR 25), .inl (cI, 6, .inl mm_sumBehindF)), ((mmR 21), .inl (cI, 2, .inl mm_placesF)), ((mmR 18), .inl (cI, 2, .inl mm_earsF)), ((mmR 28), .inl (cJ, 14, .inr (.inl mm_earNameL))), ((mmR 29), .inl (cJ, 12, .inr (.inl mm_placeNameL))), ((mmR 14), .inl (cI, 2, .inl mm_milesToldF)), ((mmR 22), .inl (cI, 12, .inl mm_placeAtF)), ((mmR 23), .inl (cI, 12, .inl mm_talkToldF)), ((mmR 19), .inl (cI, 14, .inl mm_rowToldF)), ((mmR 20), .inl (cI, 14, .inl mm_sharpOfF)), ((mmR 17), .inl (cI, 2, .inl mm_coughToldF)), ((mmR 16), .inl (cI, 2, .inl mm_hushToldF)), ((mmR 15), .inl (cI, 2, .inl g_40))] := hD
      refine lv_goto (tgt := 202) hx hb dX12_statement_46 (by decide) ?_
      have e9 := Option.some.inj hf
      have e9_0 : r_38_1 = r0 := congrArg (fun t => t.1) e9
      have e9_1 : r_38_2 = r1 := congrArg (fun t => t.2.1) e9
      have e9_2 : mm_sumFromF = r2 := congrArg (fun t => t.2.2.1) e9
      have e9_3 : mm_frameF = r3 := congrArg (fun t => t.2.2.2.1) e9
      have e9_4 : mm_phaseF = r4 := congrArg (fun t => t.2.2.2.2.1) e9
      have e9_5 : mm_beginsF = r5 := congrArg (fun t => t.2.2.2.2.2.1) e9
      have e9_6 : mm_baseF = r6 := congrArg (fun t => t.2.2.2.2.2.2.1) e9
      have e9_7 : mm_opsF = r7 := congrArg (fun t => t.2.2.2.2.2.2.2.1) e9
      have e9_8 : mm_codeSortF = r8 := congrArg (fun t => t.2.2.2.2.2.2.2.2.1) e9
      have e9_9 : mm_codeValueF = r9 := congrArg (fun t => t.2.2.2.2.2.2.2.2.2.1) e9
      have e9_10 : mm_pairF = r10 := congrArg (fun t => t.2.2.2.2.2.2.2.2.2.2.1) e9
      have e9_11 : mm_sumBehindF = r11 := congrArg (fun t => t.2.2.2.2.2.2.2.2.2.2.2.1) e9
      have e9_12 : mm_placesF = r12 := congrArg (fun t => t.2.2.2.2.2.2.2.2.2.2.2.2.1) e9
      have e9_13 : mm_earsF = r13 := congrArg (fun t => t.2.2.2.2.2.2.2.2.2.2.2.2.2.1) e9
      have e9_14 : mm_earNameL = r14 := congrArg (fun t => t.2.2.2.2.2.2.2.2.2.2.2.2.2.2.1) e9
      have e9_15 : mm_placeNameL = r15 := congrArg (fun t => t.2.2.2.2.2.2.2.2.2.2.2.2.2.2.2.1) e9
      have e9_16 : mm_placeAtF = r16 := congrArg (fun t => t.2.2.2.2.2.2.2.2.2.2.2.2.2.2.2.2.1) e9
      have e9_17 : mm_talkToldF = r17 := congrArg (fun t => t.2.2.2.2.2.2.2.2.2.2.2.2.2.2.2.2.2.1) e9
      have e9_18 : mm_rowToldF = r18 := congrArg (fun t => t.2.2.2.2.2.2.2.2.2.2.2.2.2.2.2.2.2.2.1) e9
      have e9_19 : mm_sharpOfF = r19 := congrArg (fun t => t.2.2.2.2.2.2.2.2.2.2.2.2.2.2.2.2.2.2.2.1) e9
      have e9_20 : mm_coughToldF = r20 := congrArg (fun t => t.2.2.2.2.2.2.2.2.2.2.2.2.2.2.2.2.2.2.2.2.1) e9
      have e9_21 : mm_hushToldF = r21 := congrArg (fun t => t.2.2.2.2.2.2.2.2.2.2.2.2.2.2.2.2.2.2.2.2.2.1) e9
      have e9_22 : g_40 = r22 := congrArg (fun t => t.2.2.2.2.2.2.2.2.2.2.2.2.2.2.2.2.2.2.2.2.2.2) e9
      clear e9 hf
      subst e9_0
      subst e9_1
      subst e9_2
      subst e9_3
      subst e9_4
      subst e9_5
      subst e9_6
      subst e9_7
      subst e9_8
      subst e9_9
      subst e9_10
      subst e9_11
      subst e9_12
      subst e9_13
      subst e9_14
      subst e9_15
      subst e9_16
      subst e9_17
      subst e9_18
      subst e9_19
      subst e9_20
      subst e9_21
      subst e9_22
      exact xq_vret hx hb hr hlocks hK hP hD hS dX12_statement_202
  · have hf := xq_neg hf c_
    have e9 := Option.some.inj hf
    have e9_0 : r_1 = r0 := congrArg (fun t => t.1) e9
    have e9_1 : mmJ = r1 := congrArg (fun t => t.2.1) e9
    have e9_2 : mm_sumFromF = r2 := congrArg (fun t => t.2.2.1) e9
    have e9_3 : mm_frameF = r3 := congrArg (fun t => t.2.2.2.1) e9
    have e9_4 : mm_phaseF = r4 := congrArg (fun t => t.2.2.2.2.1) e9
    have e9_5 : mm_beginsF = r5 := congrArg (fun t => t.2.2.2.2.2.1) e9
    have e9_6 : mm_baseF = r6 := congrArg (fun t => t.2.2.2.2.2.2.1) e9
    have e9_7 : mm_opsF = r7 := congrArg (fun t => t.2.2.2.2.2.2.2.1) e9
    have e9_8 : mm_codeSortF = r8 := congrArg (fun t => t.2.2.2.2.2.2.2.2.1) e9
    have e9_9 : mm_codeValueF = r9 := congrArg (fun t => t.2.2.2.2.2.2.2.2.2.1) e9
    have e9_10 : mm_pairF = r10 := congrArg (fun t => t.2.2.2.2.2.2.2.2.2.2.1) e9
    have e9_11 : mm_sumBehindF = r11 := congrArg (fun t => t.2.2.2.2.2.2.2.2.2.2.2.1) e9
    have e9_12 : mm_placesF = r12 := congrArg (fun t => t.2.2.2.2.2.2.2.2.2.2.2.2.1) e9
    have e9_13 : mm_earsF = r13 := congrArg (fun t => t.2.2.2.2.2.2.2.2.2.2.2.2.2.1) e9
    have e9_14 : mm_earNameL = r14 := congrArg (fun t => t.2.2.2.2.2.2.2.2.2.2.2.2.2.2.1) e9
    have e9_15 : mm_placeNameL = r15 := congrArg (fun t => t.2.2.2.2.2.2.2.2.2.2.2.2.2.2.2.1) e9
    have e9_16 : mm_placeAtF = r16 := congrArg (fun t => t.2.2.2.2.2.2.2.2.2.2.2.2.2.2.2.2.1) e9
    have e9_17 : mm_talkToldF = r17 := congrArg (fun t => t.2.2.2.2.2.2.2.2.2.2.2.2.2.2.2.2.2.1) e9
    have e9_18 : mm_rowToldF = r18 := congrArg (fun t => t.2.2.2.2.2.2.2.2.2.2.2.2.2.2.2.2.2.2.1) e9
    have e9_19 : mm_sharpOfF = r19 := congrArg (fun t => t.2.2.2.2.2.2.2.2.2.2.2.2.2.2.2.2.2.2.2.1) e9
    have e9_20 : mm_coughToldF = r20 := congrArg (fun t => t.2.2.2.2.2.2.2.2.2.2.2.2.2.2.2.2.2.2.2.2.1) e9
    have e9_21 : mm_hushToldF = r21 := congrArg (fun t => t.2.2.2.2.2.2.2.2.2.2.2.2.2.2.2.2.2.2.2.2.2.1) e9
    have e9_22 : mm_voiceToldF = r22 := congrArg (fun t => t.2.2.2.2.2.2.2.2.2.2.2.2.2.2.2.2.2.2.2.2.2.2) e9
    clear e9 hf
    subst e9_0
    subst e9_1
    subst e9_2
    subst e9_3
    subst e9_4
    subst e9_5
    subst e9_6
    subst e9_7
    subst e9_8
    subst e9_9
    subst e9_10
    subst e9_11
    subst e9_12
    subst e9_13
    subst e9_14
    subst e9_15
    subst e9_16
    subst e9_17
    subst e9_18
    subst e9_19
    subst e9_20
    subst e9_21
    subst e9_22
    exact xq_vret hx hb hr hlocks hK hP hD hS dX12_statement_11
