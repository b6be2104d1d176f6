def dsX12_is_0 : List (Nat × Instr × Nat) := [(0, (.iload_n 0, 1)), (1, (.iload_n 1, 1)), (2, (.if_icmp .lt 12, 3)), (5, (.iload_n 0, 1)), (6, (.iload_n 2, 1)), (7, (.if_icmp .gt 7, 3)), (10, (.iconst 1, 1)), (11, (.goto 4, 3)), (14, (.iconst 0, 1)), (15, (.ireturn, 1))]
theorem dsX12_is_0_ok : (dsX12_is_0.all fun q => decide (decode cX12_is q.1 = .ok q.2)) = true := by decide +kernel
theorem dX12_is_0 : decode cX12_is 0 = .ok (.iload_n 0, 1) := of_decide_eq_true (List.all_eq_true.mp dsX12_is_0_ok (0, (.iload_n 0, 1)) (List.mem_of_getElem? (i := 0) rfl))
theorem dX12_is_1 : decode cX12_is 1 = .ok (.iload_n 1, 1) := of_decide_eq_true (List.all_eq_true.mp dsX12_is_0_ok (1, (.iload_n 1, 1)) (List.mem_of_getElem? (i := 1) rfl))
theorem dX12_is_2 : decode cX12_is 2 = .ok (.if_icmp .lt 12, 3) := of_decide_eq_true (List.all_eq_true.mp dsX12_is_0_ok (2, (.if_icmp .lt 12, 3)) (List.mem_of_getElem? (i := 2) rfl))
theorem dX12_is_5 : decode cX12_is 5 = .ok (.iload_n 0, 1) := of_decide_eq_true (List.all_eq_true.mp dsX12_is_0_ok (5, (.iload_n 0, 1)) (List.mem_of_getElem? (i := 3) rfl))
theorem dX12_is_6 : decode cX12_is 6 = .ok (.iload_n 2, 1) := of_decide_eq_true (List.all_eq_true.mp dsX12_is_0_ok (6, (.iload_n 2, 1)) (List.mem_of_getElem? (i := 4) rfl))
theorem dX12_is_7 : decode cX12_is 7 = .ok (.if_icmp .gt 7, 3) := of_decide_eq_true (List.all_eq_true.mp dsX12_is_0_ok (7, (.if_icmp .gt 7, 3)) (List.mem_of_getElem? (i := 5) rfl))
theorem dX12_is_10 : decode cX12_is 10 = .ok (.iconst 1, 1) := of_decide_eq_true (List.all_eq_true.mp dsX12_is_0_ok (10, (.iconst 1, 1)) (List.mem_of_getElem? (i := 6) rfl))
theorem dX12_is_11 : decode cX12_is 11 = .ok (.goto 4, 3) := of_decide_eq_true (List.all_eq_true.mp dsX12_is_0_ok (11, (.goto 4, 3)) (List.mem_of_getElem? (i := 7) rfl))
theorem dX12_is_14 : decode cX12_is 14 = .ok (.iconst 0, 1) := of_decide_eq_true (List.all_eq_true.mp dsX12_is_0_ok (14, (.iconst 0, 1)) (List.mem_of_getElem? (i := 8) rfl))
theorem dX12_is_15 : decode cX12_is 15 = .ok (.ireturn, 1) := of_decide_eq_true (List.all_eq_true.mp dsX12_is_0_ok (15, (.ireturn, 1)) (List.mem_of_getElem? (i := 9) rfl))
def fX12_is (N : Nat)   (p0 : Int32) (p1 : Int32) (p2 : Int32) : Option (Int32) :=
  (if p0 < p1 then some 0 else (if p2 < p0 then some 0 else some 1))
set_option maxHeartbeats 4000000 in
set_option maxRecDepth 100000 in
theorem kX12_is (l : Launch) (dC : Nat → ClassId) (dI : Nat → Nat → Nat) (cI cB cJ cZ cM : ClassId) (z : Nat) (ad : Nat → Nat) (N : Nat) (p0 : Int32) (p1 : Int32) (p2 : Int32) {r0 : Int32} (hf : fX12_is N p0 p1 p2 = some r0) : xq_Ct l yX12_is wsX12_is { frames := 0, cells := 0, slots := 0, locals := 0 } (dC, dI) vwCl (xq_tys cI cB cJ cZ cM) z ad [.int p0, .int p1, .int p2] [] [] (some (.int r0)) := by
  intro sz
  refine Met.ofW (cc := cX12_is) (maxL := 3) (ret := (some .boolean)) (by decide) rfl ?_
  intro p e s m args below meth c s₁ B hml hv
  obtain ⟨rfl, hsz, hP, hK, hD0, hE, hz⟩ := hv
  have hx := B.exec
  have hb := B.bytes
  have hr := B.returns
  have hts := atoms_spec (ws := wsX12_is) B.pre
  have hown : s.vm.findClass RX12 = some m.cls := findClass_of_methodNamed B.named
  have hlocks := B.notSynchronized
  subst hsz
  have hD := hD0.self (sz := s.heap.size)
  have hN := xq_Env.of hE hz hD0
  generalize hAe : va_A [] s.heap.size = A at hD hN ⊢
  have hA : ∀ q : Nat, s.heap.size ≤ q → A q := fun q h => by rw [← hAe]; exact Or.inr h
  clear hAe hD0
  have hS : va_S A s.heap s.heap [] := va_S.rf
  have hl := lv_entry ([.int p0, .int p1, .int p2]) (n := 3) (Nat.le_of_ble_eq_true rfl)
  rw [lg_entry_eq]
  generalize (lg_sl ([.int p0, .int p1, .int p2]) ++ List.replicate (3 - (lg_sl ([.int p0, .int p1, .int p2])).length) Slot.unset).toArray = ls at hl ⊢
  have hl : lv_has ls 3 [(0, .int p0), (1, .int p1), (2, .int p2)] := hl
  unfold fX12_is at hf
  refine lv_iload_n hx hb dX12_is_0 rfl (lv_at hl 0 rfl) ?_
  refine lv_iload_n hx hb dX12_is_1 rfl (lv_at hl 1 rfl) ?_
  refine lv_icmp_lt (tgt := 14) hx hb dX12_is_2 (by decide) (fun c_ => ?_) (fun c_ => ?_)
  · have hf := xq_pos hf c_
    refine lv_iconst (v := 0) hx hb dX12_is_14 (by decide) ?_
    have hP9 := hP
    have hD9 := hD
    have hS9 := hS
    cases hf
    exact xq_zret hx hb hr (by decide +kernel) hlocks hK hP9 hD9 hS9 dX12_is_15
  · have hf := xq_neg hf c_
    refine lv_iload_n hx hb dX12_is_5 rfl (lv_at hl 0 rfl) ?_
    refine lv_iload_n hx hb dX12_is_6 rfl (lv_at hl 2 rfl) ?_
    refine lv_icmp_gt (tgt := 14) hx hb dX12_is_7 (by decide) (fun c_ => ?_) (fun c_ => ?_)
    · have hf := xq_pos hf c_
      refine lv_iconst (v := 0) hx hb dX12_is_14 (by decide) ?_
      have hP9 := hP
      have hD9 := hD
      have hS9 := hS
      cases hf
      exact xq_zret hx hb hr (by decide +kernel) hlocks hK hP9 hD9 hS9 dX12_is_15
    · have hf := xq_neg hf c_
      refine lv_iconst (v := 1) hx hb dX12_is_10 (by decide) ?_
      refine lv_goto (tgt := 15) hx hb dX12_is_11 (by decide) ?_
      have hP9 := hP
      have hD9 := hD
      have hS9 := hS
      cases hf
      exact xq_zret hx hb hr (by decide +kernel) hlocks hK hP9 hD9 hS9 dX12_is_15
def dsX12_put_0 : List (Nat × Instr × Nat) := [(0, (.bipush 24, 2)), (2, (.istore_n 2, 1)), (3, (.iload_n 2, 1)), (4, (.ifCond .lt 35, 3)), (7, (.aload_n 0, 1)), (8, (.getfield 7, 3)), (11, (.aload_n 0, 1)), (12, (.getfield 13, 3)), (15, (.iload_n 1, 1)), (16, (.iload_n 2, 1)), (17, (.ishr, 1)), (18, (.sipush 255, 3)), (21, (.iand, 1)), (22, (.iastore, 1)), (23, (.aload_n 0, 1)), (24, (.dup, 1)), (25, (.getfield 13, 3)), (28, (.iconst 1, 1)), (29, (.iadd, 1)), (30, (.putfield 13, 3)), (33, (.iinc 2 (-8), 3)), (36, (.goto (-33), 3)), (39, (.return_, 1))]
theorem dsX12_put_0_ok : (dsX12_put_0.all fun q => decide (decode cX12_put q.1 = .ok q.2)) = true := by decide +kernel
theorem dX12_put_0 : decode cX12_put 0 = .ok (.bipush 24, 2) := of_decide_eq_true (List.all_eq_true.mp dsX12_put_0_ok (0, (.bipush 24, 2)) (List.mem_of_getElem? (i := 0) rfl))
theorem dX12_put_2 : decode cX12_put 2 = .ok (.istore_n 2, 1) := of_decide_eq_true (List.all_eq_true.mp dsX12_put_0_ok (2, (.istore_n 2, 1)) (List.mem_of_getElem? (i := 1) rfl))
theorem dX12_put_3 : decode cX12_put 3 = .ok (.iload_n 2, 1) := of_decide_eq_true (List.all_eq_true.mp dsX12_put_0_ok (3, (.iload_n 2, 1)) (List.mem_of_getElem? (i := 2) rfl))
theorem dX12_put_4 : decode cX12_put 4 = .ok (.ifCond .lt 35, 3) := of_decide_eq_true (List.all_eq_true.mp dsX12_put_0_ok (4, (.ifCond .lt 35, 3)) (List.mem_of_getElem? (i := 3) rfl))
theorem dX12_put_7 : decode cX12_put 7 = .ok (.aload_n 0, 1) := of_decide_eq_true (List.all_eq_true.mp dsX12_put_0_ok (7, (.aload_n 0, 1)) (List.mem_of_getElem? (i := 4) rfl))
theorem dX12_put_8 : decode cX12_put 8 = .ok (.getfield 7, 3) := of_decide_eq_true (List.all_eq_true.mp dsX12_put_0_ok (8, (.getfield 7, 3)) (List.mem_of_getElem? (i := 5) rfl))
theorem dX12_put_11 : decode cX12_put 11 = .ok (.aload_n 0, 1) := of_decide_eq_true (List.all_eq_true.mp dsX12_put_0_ok (11, (.aload_n 0, 1)) (List.mem_of_getElem? (i := 6) rfl))
theorem dX12_put_12 : decode cX12_put 12 = .ok (.getfield 13, 3) := of_decide_eq_true (List.all_eq_true.mp dsX12_put_0_ok (12, (.getfield 13, 3)) (List.mem_of_getElem? (i := 7) rfl))
theorem dX12_put_15 : decode cX12_put 15 = .ok (.iload_n 1, 1) := of_decide_eq_true (List.all_eq_true.mp dsX12_put_0_ok (15, (.iload_n 1, 1)) (List.mem_of_getElem? (i := 8) rfl))
theorem dX12_put_16 : decode cX12_put 16 = .ok (.iload_n 2, 1) := of_decide_eq_true (List.all_eq_true.mp dsX12_put_0_ok (16, (.iload_n 2, 1)) (List.mem_of_getElem? (i := 9) rfl))
theorem dX12_put_17 : decode cX12_put 17 = .ok (.ishr, 1) := of_decide_eq_true (List.all_eq_true.mp dsX12_put_0_ok (17, (.ishr, 1)) (List.mem_of_getElem? (i := 10) rfl))
theorem dX12_put_18 : decode cX12_put 18 = .ok (.sipush 255, 3) := of_decide_eq_true (List.all_eq_true.mp dsX12_put_0_ok (18, (.sipush 255, 3)) (List.mem_of_getElem? (i := 11) rfl))
theorem dX12_put_21 : decode cX12_put 21 = .ok (.iand, 1) := of_decide_eq_true (List.all_eq_true.mp dsX12_put_0_ok (21, (.iand, 1)) (List.mem_of_getElem? (i := 12) rfl))
theorem dX12_put_22 : decode cX12_put 22 = .ok (.iastore, 1) := of_decide_eq_true (List.all_eq_true.mp dsX12_put_0_ok (22, (.iastore, 1)) (List.mem_of_getElem? (i := 13) rfl))
theorem dX12_put_23 : decode cX12_put 23 = .ok (.aload_n 0, 1) := of_decide_eq_true (List.all_eq_true.mp dsX12_put_0_ok (23, (.aload_n 0, 1)) (List.mem_of_getElem? (i := 14) rfl))
theorem dX12_put_24 : decode cX12_put 24 = .ok (.dup, 1) := of_decide_eq_true (List.all_eq_true.mp dsX12_put_0_ok (24, (.dup, 1)) (List.mem_of_getElem? (i := 15) rfl))
theorem dX12_put_25 : decode cX12_put 25 = .ok (.getfield 13, 3) := of_decide_eq_true (List.all_eq_true.mp dsX12_put_0_ok (25, (.getfield 13, 3)) (List.mem_of_getElem? (i := 16) rfl))
theorem dX12_put_28 : decode cX12_put 28 = .ok (.iconst 1, 1) := of_decide_eq_true (List.all_eq_true.mp dsX12_put_0_ok (28, (.iconst 1, 1)) (List.mem_of_getElem? (i := 17) rfl))
theorem dX12_put_29 : decode cX12_put 29 = .ok (.iadd, 1) := of_decide_eq_true (List.all_eq_true.mp dsX12_put_0_ok (29, (.iadd, 1)) (List.mem_of_getElem? (i := 18) rfl))
theorem dX12_put_30 : decode cX12_put 30 = .ok (.putfield 13, 3) := of_decide_eq_true (List.all_eq_true.mp dsX12_put_0_ok (30, (.putfield 13, 3)) (List.mem_of_getElem? (i := 19) rfl))
theorem dX12_put_33 : decode cX12_put 33 = .ok (.iinc 2 (-8), 3) := of_decide_eq_true (List.all_eq_true.mp dsX12_put_0_ok (33, (.iinc 2 (-8), 3)) (List.mem_of_getElem? (i := 20) rfl))
theorem dX12_put_36 : decode cX12_put 36 = .ok (.goto (-33), 3) := of_decide_eq_true (List.all_eq_true.mp dsX12_put_0_ok (36, (.goto (-33), 3)) (List.mem_of_getElem? (i := 21) rfl))
theorem dX12_put_39 : decode cX12_put 39 = .ok (.return_, 1) := of_decide_eq_true (List.all_eq_true.mp dsX12_put_0_ok (39, (.return_, 1)) (List.mem_of_getElem? (i := 22) rfl))
def fX12_put_l3 (N : Nat)   (k3 : ((Nat → Int32) × (Nat → Int32) × Int32 × Int32) → Option ((Nat → Int32) × (Nat → Int32))) : ((Nat → Int32) × (Nat → Int32) × Int32 × Int32) → Option ((Nat → Int32) × (Nat → Int32)) :=
  fun (mmI_3, mm_tapeF_3, x1_3, x2_3) => (if x2_3 < 0 then some ((mmI_3, mm_tapeF_3)) else (xq_bd (xq_ast 1800 mm_tapeF_3 (mmI_3 1) ((x1_3 >>> (x2_3 &&& 31)) &&& 255)) fun g_1 => k3 ((va_up mmI_3 1 ((mmI_3 1) + 1)), g_1, x1_3, x2_3 + (-8))))
def fX12_put (N : Nat) (mmI : Nat → Int32) (mm_tapeF : Nat → Int32)  (p1 : Int32) : Option ((Nat → Int32) × (Nat → Int32)) :=
  xq_loop (fX12_put_l3 N) N (mmI, mm_tapeF, p1, 24)
set_option maxHeartbeats 4000000 in
set_option maxRecDepth 100000 in
theorem kX12_put (l : Launch) (dC : Nat → ClassId) (dI : Nat → Nat → Nat) (cI cB cJ cZ cM : ClassId) (z : Nat) (ad : Nat → Nat) (N : Nat) (a_p0 : Nat) (mmI : Nat → Int32) (mmJ : Nat → Int64) (mmR : Nat → Nat) (mm_tapeF : Nat → Int32) (p1 : Int32) {r0 : Nat → Int32} {r1 : Nat → Int32} (hf : fX12_put N mmI mm_tapeF p1 = some (r0, r1)) : xq_Ct l yX12_put wsX12_put { frames := 0, cells := 0, slots := 0, locals := 0 } (dC, dI) vwCl (xq_tys cI cB cJ cZ cM) z ad [.ref a_p0, .int p1] [(a_p0, .inr (12, oX12 mmI mmJ mmR)), ((mmR 0), .inl (cI, 1800, .inl mm_tapeF))] [(a_p0, .inr (12, oX12 r0 mmJ mmR)), ((mmR 0), .inl (cI, 1800, .inl r1))] none := by
  intro sz
  refine Met.ofW (cc := cX12_put) (maxL := 3) (ret := none) (by decide) rfl ?_
  intro p e s m args below meth c s₁ B hml hv
  obtain ⟨rfl, hsz, hP, hK, hD0, hE, hz⟩ := hv
  have hx := B.exec
  have hb := B.bytes
  have hr := B.returns
  have hts := atoms_spec (ws := wsX12_put) B.pre
  have hown : s.vm.findClass RX12 = some m.cls := findClass_of_methodNamed B.named
  have hlocks := B.notSynchronized
  subst hsz
  have hD := hD0.self (sz := s.heap.size)
  have hN := xq_Env.of hE hz hD0
  generalize hAe : va_A [(a_p0, .inr (12, oX12 mmI mmJ mmR)), ((mmR 0), .inl (cI, 1800, .inl mm_tapeF))] s.heap.size = A at hD hN ⊢
  have hA : ∀ q : Nat, s.heap.size ≤ q → A q := fun q h => by rw [← hAe]; exact Or.inr h
  clear hAe hD0
  have hS : va_S A s.heap s.heap [] := va_S.rf
  have hl := lv_entry ([.ref a_p0, .int p1]) (n := 3) (Nat.le_of_ble_eq_true rfl)
  rw [lg_entry_eq]
  generalize (lg_sl ([.ref a_p0, .int p1]) ++ List.replicate (3 - (lg_sl ([.ref a_p0, .int p1])).length) Slot.unset).toArray = ls at hl ⊢
  have hl : lv_has ls 3 [(0, .ref a_p0), (1, .int p1)] := hl
  have hw0 := hts (.fieldLink RX12 7 "DistantVoiceModel" "tape" "[I") (by decide +kernel)
  have hinX12 : ∀ w ∈ wsX120, w ∈ wsX12_put := fun w h => List.mem_cons_of_mem _ (List.mem_append_right _ h)
  have hw2 := hts (.fieldLink RX12 13 "DistantVoiceModel" "taped" "I") (by decide +kernel)
  have l3 : ∀ n3 : Nat, ∀ (mmI_3 : Nat → Int32) (mm_tapeF_3 : Nat → Int32) (x1_3 : Int32) (x2_3 : Int32) (ls : Array Slot) (H : Heap) (locs : List Loc), xq_loop (fX12_put_l3 N) n3 (mmI_3, mm_tapeF_3, x1_3, x2_3) = some (r0, r1) → va_P (dC, dI) vwCl [(a_p0, .inr (12, oX12 mmI_3 mmJ mmR)), ((mmR 0), .inl (cI, 1800, .inl mm_tapeF_3))] H → va_D A [(a_p0, .inr (12, oX12 mmI_3 mmJ mmR)), ((mmR 0), .inl (cI, 1800, .inl mm_tapeF_3))] → va_S A s.heap H locs → lv_has ls 3 [(0, .ref a_p0), (1, .int x1_3), (2, .int x2_3)] → W p l e (headSpec wsX12_put { frames := 0, cells := 0, slots := 0, locals := 0 }).room s m [.ref a_p0, .int p1].toArray below meth c H locs 0 0 (MQ below (xq_Q (dC, dI) vwCl (xq_tys cI cB cJ cZ cM) A [(a_p0, .inr (12, oX12 r0 mmJ mmR)), ((mmR 0), .inl (cI, 1800, .inl r1))] none) [.ref a_p0, .int p1].toArray s 0 0 A) (F0 m 3 ls []) := by
    intro n3
    induction n3 with
    | zero => intro mmI_3 mm_tapeF_3 x1_3 x2_3 ls H locs hf; cases (show none = some (r0, r1) from hf)
    | succ n3 ih3 =>
      intro mmI_3 mm_tapeF_3 x1_3 x2_3 ls H locs hf hP hD hS hl
      have hf : fX12_put_l3 N (xq_loop (fX12_put_l3 N) n3) (mmI_3, mm_tapeF_3, x1_3, x2_3) = some (r0, r1) := hf
      unfold fX12_put_l3 at hf
      refine lv_iload_n hx hb dX12_put_3 rfl (lv_at hl 2 rfl) ?_
      refine lv_if_lt (tgt := 39) hx hb dX12_put_4 (by decide) (fun c_ => ?_) (fun c_ => ?_)
      · have hf := xq_pos hf c_
        have hP9 := hP
        have hD9 := hD
        have hS9 := hS
        cases hf
        exact xq_vret hx hb hr hlocks hK hP9 hD9 hS9 dX12_put_39
      · have hf := xq_neg hf c_
        refine lv_aload_n hx hb dX12_put_7 rfl (lv_at hl 0 rfl) ?_
        refine va_get (D := (dC, dI)) (ci := 12) (v := .ref ((mmR 0))) (C := RX12) (T := TX12) (N := 70) hx hb hts hinX12 hown hK hP 0 rfl rfl 0 (by decide) hw0 (fun _ h9 => h9) rfl dX12_put_8 ?_
        refine lv_aload_n hx hb dX12_put_11 rfl (lv_at hl 0 rfl) ?_
        refine va_get (D := (dC, dI)) (ci := 12) (v := .int (mmI_3 1)) (C := RX12) (T := TX12) (N := 70) hx hb hts hinX12 hown hK hP 0 rfl rfl 1 (by decide) hw2 (fun _ h9 => h9) rfl dX12_put_12 ?_
        refine lv_iload_n hx hb dX12_put_15 rfl (lv_at hl 1 rfl) ?_
        refine lv_iload_n hx hb dX12_put_16 rfl (lv_at hl 2 rfl) ?_
        refine lv_ishr hx hb dX12_put_17 ?_
        refine lv_sipush (v := 255) hx hb dX12_put_18 (by decide) ?_
        refine lv_iand hx hb dX12_put_21 ?_
        refine xq_iast hx hb hK hP hD hS 1 0 rfl rfl hf dX12_put_22 (fun g_1 H locs hf hP hD hS => ?_)
        have hP : va_P (dC, dI) vwCl [(a_p0, .inr (12, oX12 mmI_3 mmJ mmR)), ((mmR 0), .inl (cI, 1800, .inl g_1))] H := hP
        have hD : va_D A [(a_p0, .inr (12, oX12 mmI_3 mmJ mmR)), ((mmR 0), .inl (cI, 1800, .inl g_1))] := hD
        refine lv_aload_n hx hb dX12_put_23 rfl (lv_at hl 0 rfl) ?_
        refine lv_dup hx hb dX12_put_24 rfl ?_
        refine va_get (D := (dC, dI)) (ci := 12) (v := .int (mmI_3 1)) (C := RX12) (T := TX12) (N := 70) hx hb hts hinX12 hown hK hP 0 rfl rfl 1 (by decide) hw2 (fun _ h9 => h9) rfl dX12_put_25 ?_
        refine lv_iconst (v := 1) hx hb dX12_put_28 (by decide) ?_
        refine lv_iadd hx hb dX12_put_29 ?_
        refine va_put (D := (dC, dI)) (ci := 12) (v := .int ((mmI_3 1) + 1)) (ty := .int) (C := RX12) (T := TX12) (N := 70) hx hb hts hinX12 tyX12 tyX12_ok nmX12 hown hK hP hD hS 0 rfl rfl 1 (by decide) hw2 (fun _ h9 => h9) rfl (by decide +kernel) rfl rfl (Nat.le_of_ble_eq_true rfl) dX12_put_30 (fun H locs hP hD hS => ?_)
        have hP : va_P (dC, dI) vwCl [(a_p0, .inr (12, oX12 (va_up mmI_3 1 ((mmI_3 1) + 1)) mmJ mmR)), ((mmR 0), .inl (cI, 1800, .inl g_1))] H := hP
        have hD : va_D A [(a_p0, .inr (12, oX12 (va_up mmI_3 1 ((mmI_3 1) + 1)) mmJ mmR)), ((mmR 0), .inl (cI, 1800, .inl g_1))] := hD
        refine lv_iinc (v := x2_3 + (-8)) (lv' := [(2, .int (x2_3 + (-8))), (0, .ref a_p0), (1, .int x1_3)]) hx hb dX12_put_33 hl (k := 2) rfl (congrArg (fun q9 => x2_3 + q9) (by decide : Int32.ofInt (-8) = (-8))) (by decide) rfl (fun ls hl => ?_)
        refine lv_goto (tgt := 3) hx hb dX12_put_36 (by decide) ?_
        exact ih3 ((va_up mmI_3 1 ((mmI_3 1) + 1))) g_1 x1_3 (x2_3 + (-8)) _ _ _ hf hP hD hS (lv_sub hl [1, 2, 0] rfl)
  unfold fX12_put at hf
  refine lv_bipush (v := 24) hx hb dX12_put_0 (by decide) ?_
  refine lv_istore_n (lv' := [(2, .int 24), (0, .ref a_p0), (1, .int p1)]) hx hb dX12_put_2 rfl hl (by decide) rfl (fun ls hl => ?_)
  exact l3 N mmI mm_tapeF p1 24 _ _ _ hf hP hD hS (lv_sub hl [1, 2, 0] rfl)
def dsX12_refuses_0 : List (Nat × Instr × Nat) := [(0, (.aload_n 0, 1)), (1, (.getfield 147, 3)), (4, (.iload_n 1, 1)), (5, (.dup2, 1)), (6, (.iaload, 1)), (7, (.iconst 1, 1)), (8, (.iadd, 1)), (9, (.iastore, 1)), (10, (.iconst (-1), 1)), (11, (.ireturn, 1))]
theorem dsX12_refuses_0_ok : (dsX12_refuses_0.all fun q => decide (decode cX12_refuses q.1 = .ok q.2)) = true := by decide +kernel
theorem dX12_refuses_0 : decode cX12_refuses 0 = .ok (.aload_n 0, 1) := of_decide_eq_true (List.all_eq_true.mp dsX12_refuses_0_ok (0, (.aload_n 0, 1)) (List.mem_of_getElem? (i := 0) rfl))
theorem dX12_refuses_1 : decode cX12_refuses 1 = .ok (.getfield 147, 3) := of_decide_eq_true (List.all_eq_true.mp dsX12_refuses_0_ok (1, (.getfield 147, 3)) (List.mem_of_getElem? (i := 1) rfl))
theorem dX12_refuses_4 : decode cX12_refuses 4 = .ok (.iload_n 1, 1) := of_decide_eq_true (List.all_eq_true.mp dsX12_refuses_0_ok (4, (.iload_n 1, 1)) (List.mem_of_getElem? (i := 2) rfl))
theorem dX12_refuses_5 : decode cX12_refuses 5 = .ok (.dup2, 1) := of_decide_eq_true (List.all_eq_true.mp dsX12_refuses_0_ok (5, (.dup2, 1)) (List.mem_of_getElem? (i := 3) rfl))
theorem dX12_refuses_6 : decode cX12_refuses 6 = .ok (.iaload, 1) := of_decide_eq_true (List.all_eq_true.mp dsX12_refuses_0_ok (6, (.iaload, 1)) (List.mem_of_getElem? (i := 4) rfl))
theorem dX12_refuses_7 : decode cX12_refuses 7 = .ok (.iconst 1, 1) := of_decide_eq_true (List.all_eq_true.mp dsX12_refuses_0_ok (7, (.iconst 1, 1)) (List.mem_of_getElem? (i := 5) rfl))
theorem dX12_refuses_8 : decode cX12_refuses 8 = .ok (.iadd, 1) := of_decide_eq_true (List.all_eq_true.mp dsX12_refuses_0_ok (8, (.iadd, 1)) (List.mem_of_getElem? (i := 6) rfl))
theorem dX12_refuses_9 : decode cX12_refuses 9 = .ok (.iastore, 1) := of_decide_eq_true (List.all_eq_true.mp dsX12_refuses_0_ok (9, (.iastore, 1)) (List.mem_of_getElem? (i := 7) rfl))
theorem dX12_refuses_10 : decode cX12_refuses 10 = .ok (.iconst (-1), 1) := of_decide_eq_true (List.all_eq_true.mp dsX12_refuses_0_ok (10, (.iconst (-1), 1)) (List.mem_of_getElem? (i := 8) rfl))
theorem dX12_refuses_11 : decode cX12_refuses 11 = .ok (.ireturn, 1) := of_decide_eq_true (List.all_eq_true.mp dsX12_refuses_0_ok (11, (.ireturn, 1)) (List.mem_of_getElem? (i := 9) rfl))
def fX12_refuses (N : Nat) (mm_refusedF : Nat → Int32)  (p1 : Int32) : Option (Int32 × (Nat → Int32)) :=
  (xq_bd (xq_ald 6 mm_refusedF p1) fun v_1 => (xq_bd (xq_ast 6 mm_refusedF p1 (v_1 + 1)) fun g_2 => some (((-1), g_2))))
set_option maxHeartbeats 4000000 in
set_option maxRecDepth 100000 in
theorem kX12_refuses (l : Launch) (dC : Nat → ClassId) (dI : Nat → Nat → Nat) (cI cB cJ cZ cM : ClassId) (z : Nat) (ad : Nat → Nat) (N : Nat) (a_p0 : Nat) (mmI : Nat → Int32) (mmJ : Nat → Int64) (mmR : Nat → Nat) (mm_refusedF : Nat → Int32) (p1 : Int32) {r0 : Int32} {r1 : Nat → Int32} (hf : fX12_refuses N mm_refusedF p1 = some (r0, r1)) : xq_Ct l yX12_refuses wsX12_refuses { frames := 0, cells := 0, slots := 0, locals := 0 } (dC, dI) vwCl (xq_tys cI cB cJ cZ cM) z ad [.ref a_p0, .int p1] [(a_p0, .inr (12, oX12 mmI mmJ mmR)), ((mmR 44), .inl (cI, 6, .inl mm_refusedF))] [(a_p0, .inr (12, oX12 mmI mmJ mmR)), ((mmR 44), .inl (cI, 6, .inl r1))] (some (.int r0)) := by
  intro sz
  refine Met.ofW (cc := cX12_refuses) (maxL := 2) (ret := (some .int)) (by decide) rfl ?_
  intro p e s m args below meth c s₁ B hml hv
  obtain ⟨rfl, hsz, hP, hK, hD0, hE, hz⟩ := hv
  have hx := B.exec
  have hb := B.bytes
  have hr := B.returns
  have hts := atoms_spec (ws := wsX12_refuses) B.pre
  have hown : s.vm.findClass RX12 = some m.cls := findClass_of_methodNamed B.named
  have hlocks := B.notSynchronized
  subst hsz
  have hD := hD0.self (sz := s.heap.size)
  have hN := xq_Env.of hE hz hD0
  generalize hAe : va_A [(a_p0, .inr (12, oX12 mmI mmJ mmR)), ((mmR 44), .inl (cI, 6, .inl mm_refusedF))] s.heap.size = A at hD hN ⊢
  have hA : ∀ q : Nat, s.heap.size ≤ q → A q := fun q h => by rw [← hAe]; exact Or.inr h
  clear hAe hD0
  have hS : va_S A s.heap s.heap [] := va_S.rf
  have hl := lv_entry ([.ref a_p0, .int p1]) (n := 2) (Nat.le_of_ble_eq_true rfl)
  rw [lg_entry_eq]
  generalize (lg_sl ([.ref a_p0, .int p1]) ++ List.replicate (2 - (lg_sl ([.ref a_p0, .int p1])).length) Slot.unset).toArray = ls at hl ⊢
  have hl : lv_has ls 2 [(0, .ref a_p0), (1, .int p1)] := hl
  have hw0 := hts (.fieldLink RX12 147 "DistantVoiceModel" "refused" "[I") (by decide +kernel)
  have hinX12 : ∀ w ∈ wsX120, w ∈ wsX12_refuses := fun w h => List.mem_cons_of_mem _ (List.mem_append_right _ h)
  unfold fX12_refuses at hf
  refine lv_aload_n hx hb dX12_refuses_0 rfl (lv_at hl 0 rfl) ?_
  refine va_get (D := (dC, dI)) (ci := 12) (v := .ref ((mmR 44))) (C := RX12) (T := TX12) (N := 70) hx hb hts hinX12 hown hK hP 0 rfl rfl 44 (by decide) hw0 (fun _ h9 => h9) rfl dX12_refuses_1 ?_
  refine lv_iload_n hx hb dX12_refuses_4 rfl (lv_at hl 1 rfl) ?_
  refine lv_dup2_11 hx hb dX12_refuses_5 rfl rfl ?_
  refine xq_iald hx hb hK hP 1 0 rfl rfl hf dX12_refuses_6 (fun v_1 hf => ?_)
  refine lv_iconst (v := 1) hx hb dX12_refuses_7 (by decide) ?_
  refine lv_iadd hx hb dX12_refuses_8 ?_
  refine xq_iast hx hb hK hP hD hS 1 0 rfl rfl hf dX12_refuses_9 (fun g_2 H locs hf hP hD hS => ?_)
  have hP : va_P (dC, dI) vwCl [(a_p0, .inr (12, oX12 mmI mmJ mmR)), ((mmR 44), .inl (cI, 6, .inl g_2))] H := hP
  have hD : va_D A [(a_p0, .inr (12, oX12 mmI mmJ mmR)), ((mmR 44), .inl (cI, 6, .inl g_2))] := hD
  refine lv_iconst (v := (-1)) hx hb dX12_refuses_10 (by decide) ?_
  have hP9 := hP
  have hD9 := hD
  have hS9 := hS
  cases hf
  exact xq_iret hx hb hr hlocks hK hP9 hD9 hS9 dX12_refuses_11
set_option maxRecDepth 20000 in
theorem ggX12_feed_X12_refuses : GoodIn wsX12_feed wsX12_refuses := goodIn_r _ [6, 7, 13, 14, 15, 16, 17, 18, 19, 20, 21, 22, 23, 24, 25, 26, 27, 28, 29, 30, 31, 32, 33, 34, 35, 36, 37, 38, 39, 40, 41, 42, 43, 44, 45, 46, 47, 48, 49, 50, 51, 52, 53, 54, 55, 56, 57, 58, 59, 60, 61, 62, 63, 64, 65, 66, 67, 68, 69, 70, 71, 72, 73, 74, 75, 76, 77, 78, 79, 80, 81, 82] rfl (by decide +kernel)
set_option maxRecDepth 20000 in
theorem gX12_feed_X12_refuses : GoodIn wsX12_feed (wsV RX12 225 RX12 yX12_refuses wsX12_refuses) := goodIn_app (goodIn_of _ (by decide +kernel)) ggX12_feed_X12_refuses
set_option maxRecDepth 20000 in
theorem ggX12_feed_X12_put : GoodIn wsX12_feed wsX12_put := goodIn_r _ [11, 12, 1, 13, 14, 15, 16, 17, 18, 19, 20, 21, 22, 23, 24, 25, 26, 27, 28, 29, 30, 31, 32, 33, 34, 35, 36, 37, 38, 39, 40, 41, 42, 43, 44, 45, 46, 47, 48, 49, 50, 51, 52, 53, 54, 55, 56, 57, 58, 59, 60, 61, 62, 63, 64, 65, 66, 67, 68, 69, 70, 71, 72, 73, 74, 75, 76, 77, 78, 79, 80, 81, 82] rfl (by decide +kernel)
set_option maxRecDepth 20000 in
theorem gX12_feed_X12_put : GoodIn wsX12_feed (wsV RX12 229 RX12 yX12_put wsX12_put) := goodIn_app (goodIn_of _ (by decide +kernel)) ggX12_feed_X12_put
def dsX12_feed_0 : List (Nat × Instr × Nat) := [(0, (.aload_n 0, 1)), (1, (.getfield 13, 3)), (4, (.bipush 20, 2)), (6, (.iadd, 1)), (7, (.sipush 1600, 3)), (10, (.if_icmp .le 9, 3)), (13, (.aload_n 0, 1)), (14, (.iconst 0, 1)), (15, (.invokevirtual 225, 3)), (18, (.ireturn, 1)), (19, (.aload_n 0, 1)), (20, (.iload_n 1, 1)), (21, (.invokevirtual 229, 3)), (24, (.aload_n 0, 1)), (25, (.iload_n 2, 1)), (26, (.invokevirtual 229, 3)), (29, (.aload_n 0, 1)), (30, (.iload_n 3, 1)), (31, (.invokevirtual 229, 3)), (34, (.aload_n 0, 1)), (35, (.iload 4, 2)), (37, (.invokevirtual 229, 3)), (40, (.aload_n 0, 1)), (41, (.iload 5, 2)), (43, (.invokevirtual 229, 3)), (46, (.aload_n 0, 1)), (47, (.getfield 13, 3)), (50, (.ireturn, 1))]
theorem dsX12_feed_0_ok : (dsX12_feed_0.all fun q => decide (decode cX12_feed q.1 = .ok q.2)) = true := by decide +kernel
theorem dX12_feed_0 : decode cX12_feed 0 = .ok (.aload_n 0, 1) := of_decide_eq_true (List.all_eq_true.mp dsX12_feed_0_ok (0, (.aload_n 0, 1)) (List.mem_of_getElem? (i := 0) rfl))
theorem dX12_feed_1 : decode cX12_feed 1 = .ok (.getfield 13, 3) := of_decide_eq_true (List.all_eq_true.mp dsX12_feed_0_ok (1, (.getfield 13, 3)) (List.mem_of_getElem? (i := 1) rfl))
theorem dX12_feed_4 : decode cX12_feed 4 = .ok (.bipush 20, 2) := of_decide_eq_true (List.all_eq_true.mp dsX12_feed_0_ok (4, (.bipush 20, 2)) (List.mem_of_getElem? (i := 2) rfl))
theorem dX12_feed_6 : decode cX12_feed 6 = .ok (.iadd, 1) := of_decide_eq_true (List.all_eq_true.mp dsX12_feed_0_ok (6, (.iadd, 1)) (List.mem_of_getElem? (i := 3) rfl))
theorem dX12_feed_7 : decode cX12_feed 7 = .ok (.sipush 1600, 3) := of_decide_eq_true (List.all_eq_true.mp dsX12_feed_0_ok (7, (.sipush 1600, 3)) (List.mem_of_getElem? (i := 4) rfl))
theorem dX12_feed_10 : decode cX12_feed 10 = .ok (.if_icmp .le 9, 3) := of_decide_eq_true (List.all_eq_true.mp dsX12_feed_0_ok (10, (.if_icmp .le 9, 3)) (List.mem_of_getElem? (i := 5) rfl))
theorem dX12_feed_13 : decode cX12_feed 13 = .ok (.aload_n 0, 1) := of_decide_eq_true (List.all_eq_true.mp dsX12_feed_0_ok (13, (.aload_n 0, 1)) (List.mem_of_getElem? (i := 6) rfl))
theorem dX12_feed_14 : decode cX12_feed 14 = .ok (.iconst 0, 1) := of_decide_eq_true (List.all_eq_true.mp dsX12_feed_0_ok (14, (.iconst 0, 1)) (List.mem_of_getElem? (i := 7) rfl))
theorem dX12_feed_15 : decode cX12_feed 15 = .ok (.invokevirtual 225, 3) := of_decide_eq_true (List.all_eq_true.mp dsX12_feed_0_ok (15, (.invokevirtual 225, 3)) (List.mem_of_getElem? (i := 8) rfl))
theorem dX12_feed_18 : decode cX12_feed 18 = .ok (.ireturn, 1) := of_decide_eq_true (List.all_eq_true.mp dsX12_feed_0_ok (18, (.ireturn, 1)) (List.mem_of_getElem? (i := 9) rfl))
theorem dX12_feed_19 : decode cX12_feed 19 = .ok (.aload_n 0, 1) := of_decide_eq_true (List.all_eq_true.mp dsX12_feed_0_ok (19, (.aload_n 0, 1)) (List.mem_of_getElem? (i := 10) rfl))
theorem dX12_feed_20 : decode cX12_feed 20 = .ok (.iload_n 1, 1) := of_decide_eq_true (List.all_eq_true.mp dsX12_feed_0_ok (20, (.iload_n 1, 1)) (List.mem_of_getElem? (i := 11) rfl))
theorem dX12_feed_21 : decode cX12_feed 21 = .ok (.invokevirtual 229, 3) := of_decide_eq_true (List.all_eq_true.mp dsX12_feed_0_ok (21, (.invokevirtual 229, 3)) (List.mem_of_getElem? (i := 12) rfl))
theorem dX12_feed_24 : decode cX12_feed 24 = .ok (.aload_n 0, 1) := of_decide_eq_true (List.all_eq_true.mp dsX12_feed_0_ok (24, (.aload_n 0, 1)) (List.mem_of_getElem? (i := 13) rfl))
theorem dX12_feed_25 : decode cX12_feed 25 = .ok (.iload_n 2, 1) := of_decide_eq_true (List.all_eq_true.mp dsX12_feed_0_ok (25, (.iload_n 2, 1)) (List.mem_of_getElem? (i := 14) rfl))
theorem dX12_feed_26 : decode cX12_feed 26 = .ok (.invokevirtual 229, 3) := of_decide_eq_true (List.all_eq_true.mp dsX12_feed_0_ok (26, (.invokevirtual 229, 3)) (List.mem_of_getElem? (i := 15) rfl))
theorem dX12_feed_29 : decode cX12_feed 29 = .ok (.aload_n 0, 1) := of_decide_eq_true (List.all_eq_true.mp dsX12_feed_0_ok (29, (.aload_n 0, 1)) (List.mem_of_getElem? (i := 16) rfl))
theorem dX12_feed_30 : decode cX12_feed 30 = .ok (.iload_n 3, 1) := of_decide_eq_true (List.all_eq_true.mp dsX12_feed_0_ok (30, (.iload_n 3, 1)) (List.mem_of_getElem? (i := 17) rfl))
theorem dX12_feed_31 : decode cX12_feed 31 = .ok (.invokevirtual 229, 3) := of_decide_eq_true (List.all_eq_true.mp dsX12_feed_0_ok (31, (.invokevirtual 229, 3)) (List.mem_of_getElem? (i := 18) rfl))
theorem dX12_feed_34 : decode cX12_feed 34 = .ok (.aload_n 0, 1) := of_decide_eq_true (List.all_eq_true.mp dsX12_feed_0_ok (34, (.aload_n 0, 1)) (List.mem_of_getElem? (i := 19) rfl))
theorem dX12_feed_35 : decode cX12_feed 35 = .ok (.iload 4, 2) := of_decide_eq_true (List.all_eq_true.mp dsX12_feed_0_ok (35, (.iload 4, 2)) (List.mem_of_getElem? (i := 20) rfl))
theorem dX12_feed_37 : decode cX12_feed 37 = .ok (.invokevirtual 229, 3) := of_decide_eq_true (List.all_eq_true.mp dsX12_feed_0_ok (37, (.invokevirtual 229, 3)) (List.mem_of_getElem? (i := 21) rfl))
theorem dX12_feed_40 : decode cX12_feed 40 = .ok (.aload_n 0, 1) := of_decide_eq_true (List.all_eq_true.mp dsX12_feed_0_ok (40, (.aload_n 0, 1)) (List.mem_of_getElem? (i := 22) rfl))
theorem dX12_feed_41 : decode cX12_feed 41 = .ok (.iload 5, 2) := of_decide_eq_true (List.all_eq_true.mp dsX12_feed_0_ok (41, (.iload 5, 2)) (List.mem_of_getElem? (i := 23) rfl))
theorem dX12_feed_43 : decode cX12_feed 43 = .ok (.invokevirtual 229, 3) := of_decide_eq_true (List.all_eq_true.mp dsX12_feed_0_ok (43, (.invokevirtual 229, 3)) (List.mem_of_getElem? (i := 24) rfl))
theorem dX12_feed_46 : decode cX12_feed 46 = .ok (.aload_n 0, 1) := of_decide_eq_true (List.all_eq_true.mp dsX12_feed_0_ok (46, (.aload_n 0, 1)) (List.mem_of_getElem? (i := 25) rfl))
theorem dX12_feed_47 : decode cX12_feed 47 = .ok (.getfield 13, 3) := of_decide_eq_true (List.all_eq_true.mp dsX12_feed_0_ok (47, (.getfield 13, 3)) (List.mem_of_getElem? (i := 26) rfl))
theorem dX12_feed_50 : decode cX12_feed 50 = .ok (.ireturn, 1) := of_decide_eq_true (List.all_eq_true.mp dsX12_feed_0_ok (50, (.ireturn, 1)) (List.mem_of_getElem? (i := 27) rfl))
def fX12_feed (N : Nat) (mmI : Nat → Int32) (mm_tapeF : Nat → Int32) (mm_refusedF : Nat → Int32)  (p1 : Int32) (p2 : Int32) (p3 : Int32) (p4 : Int32) (p5 : Int32) : Option (Int32 × (Nat → Int32) × (Nat → Int32) × (Nat → Int32)) :=
  (if ((mmI 1) + 20) ≤ 1600 then (xq_bd (fX12_put N mmI mm_tapeF p1) fun (r_1_0, r_1_1) => (xq_bd (fX12_put N r_1_0 r_1_1 p2) fun (r_3_0, r_3_1) => (xq_bd (fX12_put N r_3_0 r_3_1 p3) fun (r_5_0, r_5_1) => (xq_bd (fX12_put N r_5_0 r_5_1 p4) fun (r_7_0, r_7_1) => (xq_bd (fX12_put N r_7_0 r_7_1 p5) fun (r_9_0, r_9_1) => some ((r_9_0 1, r_9_0, r_9_1, mm_refusedF))))))) else (xq_bd (fX12_refuses N mm_refusedF 0) fun (r_11_0, r_11_1) => some ((r_11_0, mmI, mm_tapeF, r_11_1))))
set_option maxHeartbeats 4000000 in
set_option maxRecDepth 100000 in
theorem kX12_feed (l : Launch) (dC : Nat → ClassId) (dI : Nat → Nat → Nat) (cI cB cJ cZ cM : ClassId) (z : Nat) (ad : Nat → Nat) (N : Nat) (a_p0 : Nat) (mmI : Nat → Int32) (mmJ : Nat → Int64) (mmR : Nat → Nat) (mm_tapeF : Nat → Int32) (mm_refusedF : Nat → Int32) (p1 : Int32) (p2 : Int32) (p3 : Int32) (p4 : Int32) (p5 : Int32) {r0 : Int32} {r1 : Nat → Int32} {r2 : Nat → Int32} {r3 : Nat → Int32} (hf : fX12_feed N mmI mm_tapeF mm_refusedF p1 p2 p3 p4 p5 = some (r0, r1, r2, r3)) : xq_Ct l yX12_feed wsX12_feed { frames := 1, cells := 0, slots := 0, locals := 22 } (dC, dI) vwCl (xq_tys cI cB cJ cZ cM) z ad [.ref a_p0, .int p1, .int p2, .int p3, .int p4, .int p5] [(a_p0, .inr (12, oX12 mmI mmJ mmR)), ((mmR 0), .inl (cI, 1800, .inl mm_tapeF)), ((mmR 44), .inl (cI, 6, .inl mm_refusedF))] [(a_p0, .inr (12, oX12 r1 mmJ mmR)), ((mmR 0), .inl (cI, 1800, .inl r2)), ((mmR 44), .inl (cI, 6, .inl r3))] (some (.int r0)) := by
  intro sz
  refine Met.ofW (cc := cX12_feed) (maxL := 6) (ret := (some .int)) (by decide) rfl ?_
  intro p e s m args below meth c s₁ B hml hv
  obtain ⟨rfl, hsz, hP, hK, hD0, hE, hz⟩ := hv
  have hx := B.exec
  have hb := B.bytes
  have hr := B.returns
  have hts := atoms_spec (ws := wsX12_feed) B.pre
  have hown : s.vm.findClass RX12 = some m.cls := findClass_of_methodNamed B.named
  have hlocks := B.notSynchronized
  subst hsz
  have hD := hD0.self (sz := s.heap.size)
  have hN := xq_Env.of hE hz hD0
  generalize hAe : va_A [(a_p0, .inr (12, oX12 mmI mmJ mmR)), ((mmR 0), .inl (cI, 1800, .inl mm_tapeF)), ((mmR 44), .inl (cI, 6, .inl mm_refusedF))] s.heap.size = A at hD hN ⊢
  have hA : ∀ q : Nat, s.heap.size ≤ q → A q := fun q h => by rw [← hAe]; exact Or.inr h
  clear hAe hD0
  have hS : va_S A s.heap s.heap [] := va_S.rf
  have hl := lv_entry ([.ref a_p0, .int p1, .int p2, .int p3, .int p4, .int p5]) (n := 6) (Nat.le_of_ble_eq_true rfl)
  rw [lg_entry_eq]
  generalize (lg_sl ([.ref a_p0, .int p1, .int p2, .int p3, .int p4, .int p5]) ++ List.replicate (6 - (lg_sl ([.ref a_p0, .int p1, .int p2, .int p3, .int p4, .int p5])).length) Slot.unset).toArray = ls at hl ⊢
  have hl : lv_has ls 6 [(0, .ref a_p0), (1, .int p1), (2, .int p2), (3, .int p3), (4, .int p4), (5, .int p5)] := hl
  have hw0 := hts (.fieldLink RX12 13 "DistantVoiceModel" "taped" "I") (by decide +kernel)
  have hinX12 : ∀ w ∈ wsX120, w ∈ wsX12_feed := fun w h => List.mem_cons_of_mem _ (List.mem_append_right _ h)
  unfold fX12_feed at hf
  refine lv_aload_n hx hb dX12_feed_0 rfl (lv_at hl 0 rfl) ?_
  refine va_get (D := (dC, dI)) (ci := 12) (v := .int (mmI 1)) (C := RX12) (T := TX12) (N := 70) hx hb hts hinX12 hown hK hP 0 rfl rfl 1 (by decide) hw0 (fun _ h9 => h9) rfl dX12_feed_1 ?_
  refine lv_bipush (v := 20) hx hb dX12_feed_4 (by decide) ?_
  refine lv_iadd hx hb dX12_feed_6 ?_
  refine lv_sipush (v := 1600) hx hb dX12_feed_7 (by decide) ?_
  refine lv_icmp_le (tgt := 19) hx hb dX12_feed_10 (by decide) (fun c_ => ?_) (fun c_ => ?_)
  · have hf := xq_pos hf c_
    refine lv_aload_n hx hb dX12_feed_19 rfl (lv_at hl 0 rfl) ?_
    refine lv_iload_n hx hb dX12_feed_20 rfl (lv_at hl 1 rfl) ?_
    obtain ⟨⟨r_1_0, r_1_1⟩, h_2, hf⟩ := xq_bd_some hf
    refine xq_callV (As := [.int p1]) (rest := []) (ci := 12) (q0 := 0) ⟨hx, hb, hml, hown, hts⟩ (kX12_put l dC dI cI cB cJ cZ cM z ad N a_p0 mmI mmJ mmR mm_tapeF p1 h_2) (cwV 1 hts gX12_feed_X12_put rfl rfl rfl (by decide +kernel) ⟨Nat.le_of_ble_eq_true rfl, Nat.le_of_ble_eq_true rfl⟩) hN hK hP hD hS hA [0, 1] (by decide) rfl rfl rfl rfl rfl rfl hl.1 rfl (Nat.le_of_ble_eq_true rfl) dX12_feed_21 ⟨Nat.zero_le _, Nat.zero_le _⟩ (fun H locs hP hD hS => ?_)
    have hP : va_P (dC, dI) vwCl [(a_p0, .inr (12, oX12 r_1_0 mmJ mmR)), ((mmR 0), .inl (cI, 1800, .inl r_1_1)), ((mmR 44), .inl (cI, 6, .inl mm_refusedF))] H := hP
    have hD : va_D A [(a_p0, .inr (12, oX12 r_1_0 mmJ mmR)), ((mmR 0), .inl (cI, 1800, .inl r_1_1)), ((mmR 44), .inl (cI, 6, .inl mm_refusedF))] := hD
    refine W.eq (g2 := F0 m 24 ls []) rfl ?_
    refine lv_aload_n hx hb dX12_feed_24 rfl (lv_at hl 0 rfl) ?_
    refine lv_iload_n hx hb dX12_feed_25 rfl (lv_at hl 2 rfl) ?_
    obtain ⟨⟨r_3_0, r_3_1⟩, h_4, hf⟩ := xq_bd_some hf
    refine xq_callV (As := [.int p2]) (rest := []) (ci := 12) (q0 := 0) ⟨hx, hb, hml, hown, hts⟩ (kX12_put l dC dI cI cB cJ cZ cM z ad N a_p0 r_1_0 mmJ mmR r_1_1 p2 h_4) (cwV 1 hts gX12_feed_X12_put rfl rfl rfl (by decide +kernel) ⟨Nat.le_of_ble_eq_true rfl, Nat.le_of_ble_eq_true rfl⟩) hN hK hP hD hS hA [0, 1] (by decide) rfl rfl rfl rfl rfl rfl hl.1 rfl (Nat.le_of_ble_eq_true rfl) dX12_feed_26 ⟨Nat.zero_le _, Nat.zero_le _⟩ (fun H locs hP hD hS => ?_)
    have hP : va_P (dC, dI) vwCl [(a_p0, .inr (12, oX12 r_3_0 mmJ mmR)), ((mmR 0), .inl (cI, 1800, .inl r_3_1)), ((mmR 44), .inl (cI, 6, .inl mm_refusedF))] H := hP
    have hD : va_D A [(a_p0, .inr (12, oX12 r_3_0 mmJ mmR)), ((mmR 0), .inl (cI, 1800, .inl r_3_1)), ((mmR 44), .inl (cI, 6, .inl mm_refusedF))] := hD
    refine W.eq (g2 := F0 m 29 ls []) rfl ?_
    refine lv_aload_n hx hb dX12_feed_29 rfl (lv_at hl 0 rfl) ?_
    refine lv_iload_n hx hb dX12_feed_30 rfl (lv_at hl 3 rfl) ?_
    obtain ⟨⟨r_5_0, r_5_1⟩, h_6, hf⟩ := xq_bd_some hf
    refine xq_callV (As := [.int p3]) (rest := []) (ci := 12) (q0 := 0) ⟨hx, hb, hml, hown, hts⟩ (kX12_put l dC dI cI cB cJ cZ cM z ad N a_p0 r_3_0 mmJ mmR r_3_1 p3 h_6) (cwV 1 hts gX12_feed_X12_put rfl rfl rfl (by decide +kernel) ⟨Nat.le_of_ble_eq_true rfl, Nat.le_of_ble_eq_true rfl⟩) hN hK hP hD hS hA [0, 1] (by decide) rfl rfl rfl rfl rfl rfl hl.1 rfl (Nat.le_of_ble_eq_true rfl) dX12_feed_31 ⟨Nat.zero_le _, Nat.zero_le _⟩ (fun H locs hP hD hS => ?_)
    have hP : va_P (dC, dI) vwCl [(a_p0, .inr (12, oX12 r_5_0 mmJ mmR)), ((mmR 0), .inl (cI, 1800, .inl r_5_1)), ((mmR 44), .inl (cI, 6, .inl mm_refusedF))] H := hP
    have hD : va_D A [(a_p0, .inr (12, oX12 r_5_0 mmJ mmR)), ((mmR 0), .inl (cI, 1800, .inl r_5_1)), ((mmR 44), .inl (cI, 6, .inl mm_refusedF))] := hD
    refine W.eq (g2 := F0 m 34 ls []) rfl ?_
    refine lv_aload_n hx hb dX12_feed_34 rfl (lv_at hl 0 rfl) ?_
    refine lv_iload hx hb dX12_feed_35 (lv_at hl 4 rfl) ?_
    obtain ⟨⟨r_7_0, r_7_1⟩, h_8, hf⟩ := xq_bd_some hf
    refine xq_callV (As := [.int p4]) (rest := []) (ci := 12) (q0 := 0) ⟨hx, hb, hml, hown, hts⟩ (kX12_put l dC dI cI cB cJ cZ cM z ad N a_p0 r_5_0 mmJ mmR r_5_1 p4 h_8) (cwV 1 hts gX12_feed_X12_put rfl rfl rfl (by decide +kernel) ⟨Nat.le_of_ble_eq_true rfl, Nat.le_of_ble_eq_true rfl⟩) hN hK hP hD hS hA [0, 1] (by decide) rfl rfl rfl rfl rfl rfl hl.1 rfl (Nat.le_of_ble_eq_true rfl) dX12_feed_37 ⟨Nat.zero_le _, Nat.zero_le _⟩ (fun H locs hP hD hS => ?_)
    have hP : va_P (dC, dI) vwCl [(a_p0, .inr (12, oX12 r_7_0 mmJ mmR)), ((mmR 0), .inl (cI, 1800, .inl r_7_1)), ((mmR 44), .inl (cI, 6, .inl mm_refusedF))] H := hP
    have hD : va_D A [(a_p0, .inr (12, oX12 r_7_0 mmJ mmR)), ((mmR 0), .inl (cI, 1800, .inl r_7_1)), ((mmR 44), .inl (cI, 6, .inl mm_refusedF))] := hD
    refine W.eq (g2 := F0 m 40 ls []) rfl ?_
    refine lv_aload_n hx hb dX12_feed_40 rfl (lv_at hl 0 rfl) ?_
    refine lv_iload hx hb dX12_feed_41 (lv_at hl 5 rfl) ?_
    obtain ⟨⟨r_9_0, r_9_1⟩, h_10, hf⟩ := xq_bd_some hf
    refine xq_callV (As := [.int p5]) (rest := []) (ci := 12) (q0 := 0) ⟨hx, hb, hml, hown, hts⟩ (kX12_put l dC dI cI cB cJ cZ cM z ad N a_p0 r_7_0 mmJ mmR r_7_1 p5 h_10) (cwV 1 hts gX12_feed_X12_put rfl rfl rfl (by decide +kernel) ⟨Nat.le_of_ble_eq_true rfl, Nat.le_of_ble_eq_true rfl⟩) hN hK hP hD hS hA [0, 1] (by decide) rfl rfl rfl rfl rfl rfl hl.1 rfl (Nat.le_of_ble_eq_true rfl) dX12_feed_43 ⟨Nat.zero_le _, Nat.zero_le _⟩ (fun H locs hP hD hS => ?_)
    have hP : va_P (dC, dI) vwCl [(a_p0, .inr (12, oX12 r_9_0 mmJ mmR)), ((mmR 0), .inl (cI, 1800, .inl r_9_1)), ((mmR 44), .inl (cI, 6, .inl mm_refusedF))] H := hP
    have hD : va_D A [(a_p0, .inr (12, oX12 r_9_0 mmJ mmR)), ((mmR 0), .inl (cI, 1800, .inl r_9_1)), ((mmR 44), .inl (cI, 6, .inl mm_refusedF))] := hD
    refine W.eq (g2 := F0 m 46 ls []) rfl ?_
    refine lv_aload_n hx hb dX12_feed_46 rfl (lv_at hl 0 rfl) ?_
    refine va_get (D := (dC, dI)) (ci := 12) (v := .int (r_9_0 1)) (C := RX12) (T := TX12) (N := 70) hx hb hts hinX12 hown hK hP 0 rfl rfl 1 (by decide) hw0 (fun _ h9 => h9) rfl dX12_feed_47 ?_
    have hP9 := hP
    have hD9 := hD
    have hS9 := hS
    cases hf
    exact xq_iret hx hb hr hlocks hK hP9 hD9 hS9 dX12_feed_50
  · have hf := xq_neg hf c_
    refine lv_aload_n hx hb dX12_feed_13 rfl (lv_at hl 0 rfl) ?_
    refine lv_iconst (v := 0) hx hb dX12_feed_14 (by decide) ?_
    obtain ⟨⟨r_11_0, r_11_1⟩, h_12, hf⟩ := xq_bd_some hf
    refine xq_callV (As := [.int 0]) (rest := []) (ci := 12) (q0 := 0) ⟨hx, hb, hml, hown, hts⟩ (kX12_refuses l dC dI cI cB cJ cZ cM z ad N a_p0 mmI mmJ mmR mm_refusedF 0 h_12) (cwV 1 hts gX12_feed_X12_refuses rfl rfl rfl (by decide +kernel) ⟨Nat.le_of_ble_eq_true rfl, Nat.le_of_ble_eq_true rfl⟩) hN hK hP hD hS hA [0, 2] (by decide) rfl rfl rfl rfl rfl rfl hl.1 rfl (Nat.le_of_ble_eq_true rfl) dX12_feed_15 ⟨Nat.zero_le _, Nat.zero_le _⟩ (fun H locs hP hD hS => ?_)
    have hP : va_P (dC, dI) vwCl [(a_p0, .inr (12, oX12 mmI mmJ mmR)), ((mmR 0), .inl (cI, 1800, .inl mm_tapeF)), ((mmR 44), .inl (cI, 6, .inl r_11_1))] H := hP
    have hD : va_D A [(a_p0, .inr (12, oX12 mmI mmJ mmR)), ((mmR 0), .inl (cI, 1800, .inl mm_tapeF)), ((mmR 44), .inl (cI, 6, .inl r_11_1))] := hD
    refine W.eq (g2 := F0 m 18 ls [.int r_11_0]) rfl ?_
    have hP9 := hP
    have hD9 := hD
    have hS9 := hS
    cases hf
    exact xq_iret hx hb hr hlocks hK hP9 hD9 hS9 dX12_feed_18
set_option maxRecDepth 20000 in
theorem ggX12_end_X12_refuses : GoodIn wsX12_end wsX12_refuses := goodIn_r _ [6, 7, 8, 9, 10, 11, 12, 13, 14, 15, 16, 17, 18, 19, 20, 21, 22, 23, 24, 25, 26, 27, 28, 29, 30, 31, 32, 33, 34, 35, 36, 37, 38, 39, 40, 41, 42, 43, 44, 45, 46, 47, 48, 49, 50, 51, 52, 53, 54, 55, 56, 57, 58, 59, 60, 61, 62, 63, 64, 65, 66, 67, 68, 69, 70, 71, 72, 73, 74, 75, 76, 77] rfl (by decide +kernel)
set_option maxRecDepth 20000 in
theorem gX12_end_X12_refuses : GoodIn wsX12_end (wsV RX12 225 RX12 yX12_refuses wsX12_refuses) := goodIn_app (goodIn_of _ (by decide +kernel)) ggX12_end_X12_refuses
def dsX12_end_0 : List (Nat × Instr × Nat) := [(0, (.iload_n 1, 1)), (1, (.ifCond .lt 11, 3)), (4, (.iload_n 1, 1)), (5, (.aload_n 0, 1)), (6, (.getfield 13, 3)), (9, (.if_icmp .le 17, 3)), (12, (.aload_n 0, 1)), (13, (.iconst 0, 1)), (14, (.invokevirtual 225, 3)), (17, (.ifCond .lt 7, 3)), (20, (.iconst 1, 1)), (21, (.goto 4, 3)), (24, (.iconst 0, 1)), (25, (.ireturn, 1)), (26, (.aload_n 0, 1)), (27, (.iload_n 1, 1)), (28, (.putfield 13, 3)), (31, (.iconst 1, 1)), (32, (.ireturn, 1))]
theorem dsX12_end_0_ok : (dsX12_end_0.all fun q => decide (decode cX12_end q.1 = .ok q.2)) = true := by decide +kernel
theorem dX12_end_0 : decode cX12_end 0 = .ok (.iload_n 1, 1) := of_decide_eq_true (List.all_eq_true.mp dsX12_end_0_ok (0, (.iload_n 1, 1)) (List.mem_of_getElem? (i := 0) rfl))
theorem dX12_end_1 : decode cX12_end 1 = .ok (.ifCond .lt 11, 3) := of_decide_eq_true (List.all_eq_true.mp dsX12_end_0_ok (1, (.ifCond .lt 11, 3)) (List.mem_of_getElem? (i := 1) rfl))
theorem dX12_end_4 : decode cX12_end 4 = .ok (.iload_n 1, 1) := of_decide_eq_true (List.all_eq_true.mp dsX12_end_0_ok (4, (.iload_n 1, 1)) (List.mem_of_getElem? (i := 2) rfl))
theorem dX12_end_5 : decode cX12_end 5 = .ok (.aload_n 0, 1) := of_decide_eq_true (List.all_eq_true.mp dsX12_end_0_ok (5, (.aload_n 0, 1)) (List.mem_of_getElem? (i := 3) rfl))
theorem dX12_end_6 : decode cX12_end 6 = .ok (.getfield 13, 3) := of_decide_eq_true (List.all_eq_true.mp dsX12_end_0_ok (6, (.getfield 13, 3)) (List.mem_of_getElem? (i := 4) rfl))
theorem dX12_end_9 : decode cX12_end 9 = .ok (.if_icmp .le 17, 3) := of_decide_eq_true (List.all_eq_true.mp dsX12_end_0_ok (9, (.if_icmp .le 17, 3)) (List.mem_of_getElem? (i := 5) rfl))
theorem dX12_end_12 : decode cX12_end 12 = .ok (.aload_n 0, 1) := of_decide_eq_true (List.all_eq_true.mp dsX12_end_0_ok (12, (.aload_n 0, 1)) (List.mem_of_getElem? (i := 6) rfl))
theorem dX12_end_13 : decode cX12_end 13 = .ok (.iconst 0, 1) := of_decide_eq_true (List.all_eq_true.mp dsX12_end_0_ok (13, (.iconst 0, 1)) (List.mem_of_getElem? (i := 7) rfl))
theorem dX12_end_14 : decode cX12_end 14 = .ok (.invokevirtual 225, 3) := of_decide_eq_true (List.all_eq_true.mp dsX12_end_0_ok (14, (.invokevirtual 225, 3)) (List.mem_of_getElem? (i := 8) rfl))
theorem dX12_end_17 : decode cX12_end 17 = .ok (.ifCond .lt 7, 3) := of_decide_eq_true (List.all_eq_true.mp dsX12_end_0_ok (17, (.ifCond .lt 7, 3)) (List.mem_of_getElem? (i := 9) rfl))
theorem dX12_end_20 : decode cX12_end 20 = .ok (.iconst 1, 1) := of_decide_eq_true (List.all_eq_true.mp dsX12_end_0_ok (20, (.iconst 1, 1)) (List.mem_of_getElem? (i := 10) rfl))
theorem dX12_end_21 : decode cX12_end 21 = .ok (.goto 4, 3) := of_decide_eq_true (List.all_eq_true.mp dsX12_end_0_ok (21, (.goto 4, 3)) (List.mem_of_getElem? (i := 11) rfl))
theorem dX12_end_24 : decode cX12_end 24 = .ok (.iconst 0, 1) := of_decide_eq_true (List.all_eq_true.mp dsX12_end_0_ok (24, (.iconst 0, 1)) (List.mem_of_getElem? (i := 12) rfl))
theorem dX12_end_25 : decode cX12_end 25 = .ok (.ireturn, 1) := of_decide_eq_true (List.all_eq_true.mp dsX12_end_0_ok (25, (.ireturn, 1)) (List.mem_of_getElem? (i := 13) rfl))
theorem dX12_end_26 : decode cX12_end 26 = .ok (.aload_n 0, 1) := of_decide_eq_true (List.all_eq_true.mp dsX12_end_0_ok (26, (.aload_n 0, 1)) (List.mem_of_getElem? (i := 14) rfl))
theorem dX12_end_27 : decode cX12_end 27 = .ok (.iload_n 1, 1) := of_decide_eq_true (List.all_eq_true.mp dsX12_end_0_ok (27, (.iload_n 1, 1)) (List.mem_of_getElem? (i := 15) rfl))
theorem dX12_end_28 : decode cX12_end 28 = .ok (.putfield 13, 3) := of_decide_eq_true (List.all_eq_true.mp dsX12_end_0_ok (28, (.putfield 13, 3)) (List.mem_of_getElem? (i := 16) rfl))
theorem dX12_end_31 : decode cX12_end 31 = .ok (.iconst 1, 1) := of_decide_eq_true (List.all_eq_true.mp dsX12_end_0_ok (31, (.iconst 1, 1)) (List.mem_of_getElem? (i := 17) rfl))
theorem dX12_end_32 : decode cX12_end 32 = .ok (.ireturn, 1) := of_decide_eq_true (List.all_eq_true.mp dsX12_end_0_ok (32, (.ireturn, 1)) (List.mem_of_getElem? (i := 18) rfl))
def fX12_end_b12 (N : Nat)    : ((Nat → Int32) × (Nat → Int32)) → Option (Int32 × (Nat → Int32) × (Nat → Int32)) :=
  fun (mmI_12, mm_refusedF_12) => (xq_bd (fX12_refuses N mm_refusedF_12 0) fun (r_1_0, r_1_1) => (if r_1_0 < 0 then some ((0, mmI_12, r_1_1)) else some ((1, mmI_12, r_1_1))))
def fX12_end (N : Nat) (mmI : Nat → Int32) (mm_refusedF : Nat → Int32)  (p1 : Int32) : Option (Int32 × (Nat → Int32) × (Nat → Int32)) :=
  (if p1 < 0 then fX12_end_b12 N (mmI, mm_refusedF) else (if p1 ≤ (mmI 1) then some ((1, (va_up mmI 1 p1), mm_refusedF)) else fX12_end_b12 N (mmI, mm_refusedF)))
set_option maxHeartbeats 4000000 in
set_option maxRecDepth 100000 in
theorem kX12_end (l : Launch) (dC : Nat → ClassId) (dI : Nat → Nat → Nat) (cI cB cJ cZ cM : ClassId) (z : Nat) (ad : Nat → Nat) (N : Nat) (a_p0 : Nat) (mmI : Nat → Int32) (mmJ : Nat → Int64) (mmR : Nat → Nat) (mm_refusedF : Nat → Int32) (p1 : Int32) {r0 : Int32} {r1 : Nat → Int32} {r2 : Nat → Int32} (hf : fX12_end N mmI mm_refusedF p1 = some (r0, r1, r2)) : xq_Ct l yX12_end wsX12_end { frames := 1, cells := 0, slots := 0, locals := 21 } (dC, dI) vwCl (xq_tys cI cB cJ cZ cM) z ad [.ref a_p0, .int p1] [(a_p0, .inr (12, oX12 mmI mmJ mmR)), ((mmR 44), .inl (cI, 6, .inl mm_refusedF))] [(a_p0, .inr (12, oX12 r1 mmJ mmR)), ((mmR 44), .inl (cI, 6, .inl r2))] (some (.int r0)) := by
  intro sz
  refine Met.ofW (cc := cX12_end) (maxL := 2) (ret := (some .boolean)) (by decide) rfl ?_
  intro p e s m args below meth c s₁ B hml hv
  obtain ⟨rfl, hsz, hP, hK, hD0, hE, hz⟩ := hv
  have hx := B.exec
  have hb := B.bytes
  have hr := B.returns
  have hts := atoms_spec (ws := wsX12_end) B.pre
  have hown : s.vm.findClass RX12 = some m.cls := findClass_of_methodNamed B.named
  have hlocks := B.notSynchronized
  subst hsz
  have hD := hD0.self (sz := s.heap.size)
  have hN := xq_Env.of hE hz hD0
  generalize hAe : va_A [(a_p0, .inr (12, oX12 mmI mmJ mmR)), ((mmR 44), .inl (cI, 6, .inl mm_refusedF))] s.heap.size = A at hD hN ⊢
  have hA : ∀ q : Nat, s.heap.size ≤ q → A q := fun q h => by rw [← hAe]; exact Or.inr h
  clear hAe hD0
  have hS : va_S A s.heap s.heap [] := va_S.rf
  have hl := lv_entry ([.ref a_p0, .int p1]) (n := 2) (Nat.le_of_ble_eq_true rfl)
  rw [lg_entry_eq]
  generalize (lg_sl ([.ref a_p0, .int p1]) ++ List.replicate (2 - (lg_sl ([.ref a_p0, .int p1])).length) Slot.unset).toArray = ls at hl ⊢
  have hl : lv_has ls 2 [(0, .ref a_p0), (1, .int p1)] := hl
  have hw0 := hts (.fieldLink RX12 13 "DistantVoiceModel" "taped" "I") (by decide +kernel)
  have hinX12 : ∀ w ∈ wsX120, w ∈ wsX12_end := fun w h => List.mem_cons_of_mem _ (List.mem_append_right _ h)
  have b12 : ∀ (mmI_12 : Nat → Int32) (mm_refusedF_12 : Nat → Int32) (ls : Array Slot) (H : Heap) (locs : List Loc), fX12_end_b12 N (mmI_12, mm_refusedF_12) = some (r0, r1, r2) → va_P (dC, dI) vwCl [(a_p0, .inr (12, oX12 mmI_12 mmJ mmR)), ((mmR 44), .inl (cI, 6, .inl mm_refusedF_12))] H → va_D A [(a_p0, .inr (12, oX12 mmI_12 mmJ mmR)), ((mmR 44), .inl (cI, 6, .inl mm_refusedF_12))] → va_S A s.heap H locs → lv_has ls 2 [(0, .ref a_p0)] → W p l e (headSpec wsX12_end { frames := 1, cells := 0, slots := 0, locals := 21 }).room s m [.ref a_p0, .int p1].toArray below meth c H locs 0 0 (MQ below (xq_Q (dC, dI) vwCl (xq_tys cI cB cJ cZ cM) A [(a_p0, .inr (12, oX12 r1 mmJ mmR)), ((mmR 44), .inl (cI, 6, .inl r2))] (some (.int r0))) [.ref a_p0, .int p1].toArray s 0 0 A) (F0 m 12 ls []) := by
    intro mmI_12 mm_refusedF_12 ls H locs hf hP hD hS hl
    unfold fX12_end_b12 at hf
    refine lv_aload_n hx hb dX12_end_12 rfl (lv_at hl 0 rfl) ?_
    refine lv_iconst (v := 0) hx hb dX12_end_13 (by decide) ?_
    obtain ⟨⟨r_1_0, r_1_1⟩, h_2, hf⟩ := xq_bd_some hf
    refine xq_callV (As := [.int 0]) (rest := []) (ci := 12) (q0 := 0) ⟨hx, hb, hml, hown, hts⟩ (kX12_refuses l dC dI cI cB cJ cZ cM z ad N a_p0 mmI_12 mmJ mmR mm_refusedF_12 0 h_2) (cwV 1 hts gX12_end_X12_refuses rfl rfl rfl (by decide +kernel) ⟨Nat.le_of_ble_eq_true rfl, Nat.le_of_ble_eq_true rfl⟩) hN hK hP hD hS hA [0, 1] (by decide) rfl rfl rfl rfl rfl rfl hl.1 rfl (Nat.le_of_ble_eq_true rfl) dX12_end_14 ⟨Nat.zero_le _, Nat.zero_le _⟩ (fun H locs hP hD hS => ?_)
    have hP : va_P (dC, dI) vwCl [(a_p0, .inr (12, oX12 mmI_12 mmJ mmR)), ((mmR 44), .inl (cI, 6, .inl r_1_1))] H := hP
    have hD : va_D A [(a_p0, .inr (12, oX12 mmI_12 mmJ mmR)), ((mmR 44), .inl (cI, 6, .inl r_1_1))] := hD
    refine W.eq (g2 := F0 m 17 ls [.int r_1_0]) rfl ?_
    refine lv_if_lt (tgt := 24) hx hb dX12_end_17 (by decide) (fun c_ => ?_) (fun c_ => ?_)
    · have hf := xq_pos hf c_
      refine lv_iconst (v := 0) hx hb dX12_end_24 (by decide) ?_
      have hP9 := hP
      have hD9 := hD
      have hS9 := hS
      cases hf
      exact xq_zret hx hb hr (by decide +kernel) hlocks hK hP9 hD9 hS9 dX12_end_25
    · have hf := xq_neg hf c_
      refine lv_iconst (v := 1) hx hb dX12_end_20 (by decide) ?_
      refine lv_goto (tgt := 25) hx hb dX12_end_21 (by decide) ?_
      have hP9 := hP
      have hD9 := hD
      have hS9 := hS
      cases hf
      exact xq_zret hx hb hr (by decide +kernel) hlocks hK hP9 hD9 hS9 dX12_end_25
  unfold fX12_end at hf
  refine lv_iload_n hx hb dX12_end_0 rfl (lv_at hl 1 rfl) ?_
  refine lv_if_lt (tgt := 12) hx hb dX12_end_1 (by decide) (fun c_ => ?_) (fun c_ => ?_)
  · have hf := xq_pos hf c_
    exact b12 mmI mm_refusedF _ _ _ hf hP hD hS (lv_sub hl [0] rfl)
  · have hf := xq_neg hf c_
    refine lv_iload_n hx hb dX12_end_4 rfl (lv_at hl 1 rfl) ?_
    refine lv_aload_n hx hb dX12_end_5 rfl (lv_at hl 0 rfl) ?_
    refine va_get (D := (dC, dI)) (ci := 12) (v := .int (mmI 1)) (C := RX12) (T := TX12) (N := 70) hx hb hts hinX12 hown hK hP 0 rfl rfl 1 (by decide) hw0 (fun _ h9 => h9) rfl dX12_end_6 ?_
    refine lv_icmp_le (tgt := 26) hx hb dX12_end_9 (by decide) (fun c_ => ?_) (fun c_ => ?_)
    · have hf := xq_pos hf c_
      refine lv_aload_n hx hb dX12_end_26 rfl (lv_at hl 0 rfl) ?_
      refine lv_iload_n hx hb dX12_end_27 rfl (lv_at hl 1 rfl) ?_
      refine va_put (D := (dC, dI)) (ci := 12) (v := .int p1) (ty := .int) (C := RX12) (T := TX12) (N := 70) hx hb hts hinX12 tyX12 tyX12_ok nmX12 hown hK hP hD hS 0 rfl rfl 1 (by decide) hw0 (fun _ h9 => h9) rfl (by decide +kernel) rfl rfl (Nat.le_of_ble_eq_true rfl) dX12_end_28 (fun H locs hP hD hS => ?_)
      have hP : va_P (dC, dI) vwCl [(a_p0, .inr (12, oX12 (va_up mmI 1 p1) mmJ mmR)), ((mmR 44), .inl (cI, 6, .inl mm_refusedF))] H := hP
      have hD : va_D A [(a_p0, .inr (12, oX12 (va_up mmI 1 p1) mmJ mmR)), ((mmR 44), .inl (cI, 6, .inl mm_refusedF))] := hD
      refine lv_iconst (v := 1) hx hb dX12_end_31 (by decide) ?_
      have hP9 := hP
      have hD9 := hD
      have hS9 := hS
      cases hf
      exact xq_zret hx hb hr (by decide +kernel) hlocks hK hP9 hD9 hS9 dX12_end_32
    · have hf := xq_neg hf c_
      exact b12 mmI mm_refusedF _ _ _ hf hP hD hS (lv_sub hl [0] rfl)
def dsX12_blame_0 : List (Nat × Instr × Nat) := [(0, (.aload_n 0, 1)), (1, (.getfield 36, 3)), (4, (.ifCond .le 4, 3)), (7, (.return_, 1)), (8, (.aload_n 0, 1)), (9, (.iload_n 1, 1)), (10, (.putfield 36, 3)), (13, (.aload_n 0, 1)), (14, (.iload_n 2, 1)), (15, (.putfield 39, 3)), (18, (.return_, 1))]
theorem dsX12_blame_0_ok : (dsX12_blame_0.all fun q => decide (decode cX12_blame q.1 = .ok q.2)) = true := by decide +kernel
theorem dX12_blame_0 : decode cX12_blame 0 = .ok (.aload_n 0, 1) := of_decide_eq_true (List.all_eq_true.mp dsX12_blame_0_ok (0, (.aload_n 0, 1)) (List.mem_of_getElem? (i := 0) rfl))
theorem dX12_blame_1 : decode cX12_blame 1 = .ok (.getfield 36, 3) := of_decide_eq_true (List.all_eq_true.mp dsX12_blame_0_ok (1, (.getfield 36, 3)) (List.mem_of_getElem? (i := 1) rfl))
theorem dX12_blame_4 : decode cX12_blame 4 = .ok (.ifCond .le 4, 3) := of_decide_eq_true (List.all_eq_true.mp dsX12_blame_0_ok (4, (.ifCond .le 4, 3)) (List.mem_of_getElem? (i := 2) rfl))
theorem dX12_blame_7 : decode cX12_blame 7 = .ok (.return_, 1) := of_decide_eq_true (List.all_eq_true.mp dsX12_blame_0_ok (7, (.return_, 1)) (List.mem_of_getElem? (i := 3) rfl))
theorem dX12_blame_8 : decode cX12_blame 8 = .ok (.aload_n 0, 1) := of_decide_eq_true (List.all_eq_true.mp dsX12_blame_0_ok (8, (.aload_n 0, 1)) (List.mem_of_getElem? (i := 4) rfl))
theorem dX12_blame_9 : decode cX12_blame 9 = .ok (.iload_n 1, 1) := of_decide_eq_true (List.all_eq_true.mp dsX12_blame_0_ok (9, (.iload_n 1, 1)) (List.mem_of_getElem? (i := 5) rfl))
theorem dX12_blame_10 : decode cX12_blame 10 = .ok (.putfield 36, 3) := of_decide_eq_true (List.all_eq_true.mp dsX12_blame_0_ok (10, (.putfield 36, 3)) (List.mem_of_getElem? (i := 6) rfl))
theorem dX12_blame_13 : decode cX12_blame 13 = .ok (.aload_n 0, 1) := of_decide_eq_true (List.all_eq_true.mp dsX12_blame_0_ok (13, (.aload_n 0, 1)) (List.mem_of_getElem? (i := 7) rfl))
theorem dX12_blame_14 : decode cX12_blame 14 = .ok (.iload_n 2, 1) := of_decide_eq_true (List.all_eq_true.mp dsX12_blame_0_ok (14, (.iload_n 2, 1)) (List.mem_of_getElem? (i := 8) rfl))
theorem dX12_blame_15 : decode cX12_blame 15 = .ok (.putfield 39, 3) := of_decide_eq_true (List.all_eq_true.mp dsX12_blame_0_ok (15, (.putfield 39, 3)) (List.mem_of_getElem? (i := 9) rfl))
theorem dX12_blame_18 : decode cX12_blame 18 = .ok (.return_, 1) := of_decide_eq_true (List.all_eq_true.mp dsX12_blame_0_ok (18, (.return_, 1)) (List.mem_of_getElem? (i := 10) rfl))
def fX12_blame (N : Nat) (mmI : Nat → Int32)  (p1 : Int32) (p2 : Int32) : Option ((Nat → Int32)) :=
  (if (mmI 8) ≤ 0 then some ((va_up (va_up mmI 8 p1) 9 p2)) else some mmI)
set_option maxHeartbeats 4000000 in
set_option maxRecDepth 100000 in
theorem kX12_blame (l : Launch) (dC : Nat → ClassId) (dI : Nat → Nat → Nat) (cI cB cJ cZ cM : ClassId) (z : Nat) (ad : Nat → Nat) (N : Nat) (a_p0 : Nat) (mmI : Nat → Int32) (mmJ : Nat → Int64) (mmR : Nat → Nat) (p1 : Int32) (p2 : Int32) {r0 : Nat → Int32} (hf : fX12_blame N mmI p1 p2 = some r0) : xq_Ct l yX12_blame wsX12_blame { frames := 0, cells := 0, slots := 0, locals := 0 } (dC, dI) vwCl (xq_tys cI cB cJ cZ cM) z ad [.ref a_p0, .int p1, .int p2] [(a_p0, .inr (12, oX12 mmI mmJ mmR))] [(a_p0, .inr (12, oX12 r0 mmJ mmR))] none := by
  intro sz
  refine Met.ofW (cc := cX12_blame) (maxL := 3) (ret := none) (by decide) rfl ?_
  intro p e s m args below meth c s₁ B hml hv
  obtain ⟨rfl, hsz, hP, hK, hD0, hE, hz⟩ := hv
  have hx := B.exec
  have hb := B.bytes
  have hr := B.returns
  have hts := atoms_spec (ws := wsX12_blame) B.pre
  have hown : s.vm.findClass RX12 = some m.cls := findClass_of_methodNamed B.named
  have hlocks := B.notSynchronized
  subst hsz
  have hD := hD0.self (sz := s.heap.size)
  have hN := xq_Env.of hE hz hD0
  generalize hAe : va_A [(a_p0, .inr (12, oX12 mmI mmJ mmR))] s.heap.size = A at hD hN ⊢
  have hA : ∀ q : Nat, s.heap.size ≤ q → A q := fun q h => by rw [← hAe]; exact Or.inr h
  clear hAe hD0
  have hS : va_S A s.heap s.heap [] := va_S.rf
  have hl := lv_entry ([.ref a_p0, .int p1, .int p2]) (n := 3) (Nat.le_of_ble_eq_true rfl)
  rw [lg_entry_eq]
  generalize (lg_sl ([.ref a_p0, .int p1, .int p2]) ++ List.replicate (3 - (lg_sl ([.ref a_p0, .int p1, .int p2])).length) Slot.unset).toArray = ls at hl ⊢
  have hl : lv_has ls 3 [(0, .ref a_p0), (1, .int p1), (2, .int p2)] := hl
  have hw0 := hts (.fieldLink RX12 36 "DistantVoiceModel" "faultKind" "I") (by decide +kernel)
  have hinX12 : ∀ w ∈ wsX120, w ∈ wsX12_blame := fun w h => List.mem_cons_of_mem _ (List.mem_append_right _ h)
  have hw2 := hts (.fieldLink RX12 39 "DistantVoiceModel" "faultPlace" "I") (by decide +kernel)
  unfold fX12_blame at hf
  refine lv_aload_n hx hb dX12_blame_0 rfl (lv_at hl 0 rfl) ?_
  refine va_get (D := (dC, dI)) (ci := 12) (v := .int (mmI 8)) (C := RX12) (T := TX12) (N := 70) hx hb hts hinX12 hown hK hP 0 rfl rfl 8 (by decide) hw0 (fun _ h9 => h9) rfl dX12_blame_1 ?_
  refine lv_if_le (tgt := 8) hx hb dX12_blame_4 (by decide) (fun c_ => ?_) (fun c_ => ?_)
  · have hf := xq_pos hf c_
    refine lv_aload_n hx hb dX12_blame_8 rfl (lv_at hl 0 rfl) ?_
    refine lv_iload_n hx hb dX12_blame_9 rfl (lv_at hl 1 rfl) ?_
    refine va_put (D := (dC, dI)) (ci := 12) (v := .int p1) (ty := .int) (C := RX12) (T := TX12) (N := 70) hx hb hts hinX12 tyX12 tyX12_ok nmX12 hown hK hP hD hS 0 rfl rfl 8 (by decide) hw0 (fun _ h9 => h9) rfl (by decide +kernel) rfl rfl (Nat.le_of_ble_eq_true rfl) dX12_blame_10 (fun H locs hP hD hS => ?_)
    have hP : va_P (dC, dI) vwCl [(a_p0, .inr (12, oX12 (va_up mmI 8 p1) mmJ mmR))] H := hP
    have hD : va_D A [(a_p0, .inr (12, oX12 (va_up mmI 8 p1) mmJ mmR))] := hD
    refine lv_aload_n hx hb dX12_blame_13 rfl (lv_at hl 0 rfl) ?_
    refine lv_iload_n hx hb dX12_blame_14 rfl (lv_at hl 2 rfl) ?_
    refine va_put (D := (dC, dI)) (ci := 12) (v := .int p2) (ty := .int) (C := RX12) (T := TX12) (N := 70) hx hb hts hinX12 tyX12 tyX12_ok nmX12 hown hK hP hD hS 0 rfl rfl 9 (by decide) hw2 (fun _ h9 => h9) rfl (by decide +kernel) rfl rfl (Nat.le_of_ble_eq_true rfl) dX12_blame_15 (fun H locs hP hD hS => ?_)
    have hP : va_P (dC, dI) vwCl [(a_p0, .inr (12, oX12 (va_up (va_up mmI 8 p1) 9 p2) mmJ mmR))] H := hP
    have hD : va_D A [(a_p0, .inr (12, oX12 (va_up (va_up mmI 8 p1) 9 p2) mmJ mmR))] := hD
    have hP9 := hP
    have hD9 := hD
    have hS9 := hS
    cases hf
    exact xq_vret hx hb hr hlocks hK hP9 hD9 hS9 dX12_blame_18
  · have hf := xq_neg hf c_
    have hP9 := hP
    have hD9 := hD
    have hS9 := hS
    cases hf
    exact xq_vret hx hb hr hlocks hK hP9 hD9 hS9 dX12_blame_7
def dsX12_isLetter_0 : List (Nat × Instr × Nat) := [(0, (.iload_n 0, 1)), (1, (.bipush 97, 2)), (3, (.if_icmp .lt 13, 3)), (6, (.iload_n 0, 1)), (7, (.bipush 122, 2)), (9, (.if_icmp .gt 7, 3)), (12, (.iconst 1, 1)), (13, (.goto 4, 3)), (16, (.iconst 0, 1)), (17, (.ireturn, 1))]
theorem dsX12_isLetter_0_ok : (dsX12_isLetter_0.all fun q => decide (decode cX12_isLetter q.1 = .ok q.2)) = true := by decide +kernel
theorem dX12_isLetter_0 : decode cX12_isLetter 0 = .ok (.iload_n 0, 1) := of_decide_eq_true (List.all_eq_true.mp dsX12_isLetter_0_ok (0, (.iload_n 0, 1)) (List.mem_of_getElem? (i := 0) rfl))
theorem dX12_isLetter_1 : decode cX12_isLetter 1 = .ok (.bipush 97, 2) := of_decide_eq_true (List.all_eq_true.mp dsX12_isLetter_0_ok (1, (.bipush 97, 2)) (List.mem_of_getElem? (i := 1) rfl))
theorem dX12_isLetter_3 : decode cX12_isLetter 3 = .ok (.if_icmp .lt 13, 3) := of_decide_eq_true (List.all_eq_true.mp dsX12_isLetter_0_ok (3, (.if_icmp .lt 13, 3)) (List.mem_of_getElem? (i := 2) rfl))
theorem dX12_isLetter_6 : decode cX12_isLetter 6 = .ok (.iload_n 0, 1) := of_decide_eq_true (List.all_eq_true.mp dsX12_isLetter_0_ok (6, (.iload_n 0, 1)) (List.mem_of_getElem? (i := 3) rfl))
theorem dX12_isLetter_7 : decode cX12_isLetter 7 = .ok (.bipush 122, 2) := of_decide_eq_true (List.all_eq_true.mp dsX12_isLetter_0_ok (7, (.bipush 122, 2)) (List.mem_of_getElem? (i := 4) rfl))
theorem dX12_isLetter_9 : decode cX12_isLetter 9 = .ok (.if_icmp .gt 7, 3) := of_decide_eq_true (List.all_eq_true.mp dsX12_isLetter_0_ok (9, (.if_icmp .gt 7, 3)) (List.mem_of_getElem? (i := 5) rfl))
theorem dX12_isLetter_12 : decode cX12_isLetter 12 = .ok (.iconst 1, 1) := of_decide_eq_true (List.all_eq_true.mp dsX12_isLetter_0_ok (12, (.iconst 1, 1)) (List.mem_of_getElem? (i := 6) rfl))
theorem dX12_isLetter_13 : decode cX12_isLetter 13 = .ok (.goto 4, 3) := of_decide_eq_true (List.all_eq_true.mp dsX12_isLetter_0_ok (13, (.goto 4, 3)) (List.mem_of_getElem? (i := 7) rfl))
theorem dX12_isLetter_16 : decode cX12_isLetter 16 = .ok (.iconst 0, 1) := of_decide_eq_true (List.all_eq_true.mp dsX12_isLetter_0_ok (16, (.iconst 0, 1)) (List.mem_of_getElem? (i := 8) rfl))
theorem dX12_isLetter_17 : decode cX12_isLetter 17 = .ok (.ireturn, 1) := of_decide_eq_true (List.all_eq_true.mp dsX12_isLetter_0_ok (17, (.ireturn, 1)) (List.mem_of_getElem? (i := 9) rfl))
def fX12_isLetter (N : Nat)   (p0 : Int32) : Option (Int32) :=
  (if p0 < 97 then some 0 else (if 122 < p0 then some 0 else some 1))
set_option maxHeartbeats 4000000 in
set_option maxRecDepth 100000 in
theorem kX12_isLetter (l : Launch) (dC : Nat → ClassId) (dI : Nat → Nat → Nat) (cI cB cJ cZ cM : ClassId) (z : Nat) (ad : Nat → Nat) (N : Nat) (p0 : Int32) {r0 : Int32} (hf : fX12_isLetter N p0 = some r0) : xq_Ct l yX12_isLetter wsX12_isLetter { frames := 0, cells := 0, slots := 0, locals := 0 } (dC, dI) vwCl (xq_tys cI cB cJ cZ cM) z ad [.int p0] [] [] (some (.int r0)) := by
  intro sz
  refine Met.ofW (cc := cX12_isLetter) (maxL := 1) (ret := (some .boolean)) (by decide) rfl ?_
  intro p e s m args below meth c s₁ B hml hv
  obtain ⟨rfl, hsz, hP, hK, hD0, hE, hz⟩ := hv
  have hx := B.exec
  have hb := B.bytes
  have hr := B.returns
  have hts := atoms_spec (ws := wsX12_isLetter) B.pre
  have hown : s.vm.findClass RX12 = some m.cls := findClass_of_methodNamed B.named
  have hlocks := B.notSynchronized
  subst hsz
  have hD := hD0.self (sz := s.heap.size)
  have hN := xq_Env.of hE hz hD0
  generalize hAe : va_A [] s.heap.size = A at hD hN ⊢
  have hA : ∀ q : Nat, s.heap.size ≤ q → A q := fun q h => by rw [← hAe]; exact Or.inr h
  clear hAe hD0
  have hS : va_S A s.heap s.heap [] := va_S.rf
  have hl := lv_entry ([.int p0]) (n := 1) (Nat.le_of_ble_eq_true rfl)
  rw [lg_entry_eq]
  generalize (lg_sl ([.int p0]) ++ List.replicate (1 - (lg_sl ([.int p0])).length) Slot.unset).toArray = ls at hl ⊢
  have hl : lv_has ls 1 [(0, .int p0)] := hl
  unfold fX12_isLetter at hf
  refine lv_iload_n hx hb dX12_isLetter_0 rfl (lv_at hl 0 rfl) ?_
  refine lv_bipush (v := 97) hx hb dX12_isLetter_1 (by decide) ?_
  refine lv_icmp_lt (tgt := 16) hx hb dX12_isLetter_3 (by decide) (fun c_ => ?_) (fun c_ => ?_)
  · have hf := xq_pos hf c_
    refine lv_iconst (v := 0) hx hb dX12_isLetter_16 (by decide) ?_
    have hP9 := hP
    have hD9 := hD
    have hS9 := hS
    cases hf
    exact xq_zret hx hb hr (by decide +kernel) hlocks hK hP9 hD9 hS9 dX12_isLetter_17
  · have hf := xq_neg hf c_
    refine lv_iload_n hx hb dX12_isLetter_6 rfl (lv_at hl 0 rfl) ?_
    refine lv_bipush (v := 122) hx hb dX12_isLetter_7 (by decide) ?_
    refine lv_icmp_gt (tgt := 16) hx hb dX12_isLetter_9 (by decide) (fun c_ => ?_) (fun c_ => ?_)
    · have hf := xq_pos hf c_
      refine lv_iconst (v := 0) hx hb dX12_isLetter_16 (by decide) ?_
      have hP9 := hP
      have hD9 := hD
      have hS9 := hS
      cases hf
      exact xq_zret hx hb hr (by decide +kernel) hlocks hK hP9 hD9 hS9 dX12_isLetter_17
    · have hf := xq_neg hf c_
      refine lv_iconst (v := 1) hx hb dX12_isLetter_12 (by decide) ?_
      refine lv_goto (tgt := 17) hx hb dX12_isLetter_13 (by decide) ?_
      have hP9 := hP
      have hD9 := hD
      have hS9 := hS
      cases hf
      exact xq_zret hx hb hr (by decide +kernel) hlocks hK hP9 hD9 hS9 dX12_isLetter_17
def dsX12_isDigit_0 : List (Nat × Instr × Nat) := [(0, (.iload_n 0, 1)), (1, (.bipush 48, 2)), (3, (.if_icmp .lt 13, 3)), (6, (.iload_n 0, 1)), (7, (.bipush 57, 2)), (9, (.if_icmp .gt 7, 3)), (12, (.iconst 1, 1)), (13, (.goto 4, 3)), (16, (.iconst 0, 1)), (17, (.ireturn, 1))]
theorem dsX12_isDigit_0_ok : (dsX12_isDigit_0.all fun q => decide (decode cX12_isDigit q.1 = .ok q.2)) = true := by decide +kernel
theorem dX12_isDigit_0 : decode cX12_isDigit 0 = .ok (.iload_n 0, 1) := of_decide_eq_true (List.all_eq_true.mp dsX12_isDigit_0_ok (0, (.iload_n 0, 1)) (List.mem_of_getElem? (i := 0) rfl))
theorem dX12_isDigit_1 : decode cX12_isDigit 1 = .ok (.bipush 48, 2) := of_decide_eq_true (List.all_eq_true.mp dsX12_isDigit_0_ok (1, (.bipush 48, 2)) (List.mem_of_getElem? (i := 1) rfl))
theorem dX12_isDigit_3 : decode cX12_isDigit 3 = .ok (.if_icmp .lt 13, 3) := of_decide_eq_true (List.all_eq_true.mp dsX12_isDigit_0_ok (3, (.if_icmp .lt 13, 3)) (List.mem_of_getElem? (i := 2) rfl))
theorem dX12_isDigit_6 : decode cX12_isDigit 6 = .ok (.iload_n 0, 1) := of_decide_eq_true (List.all_eq_true.mp dsX12_isDigit_0_ok (6, (.iload_n 0, 1)) (List.mem_of_getElem? (i := 3) rfl))
theorem dX12_isDigit_7 : decode cX12_isDigit 7 = .ok (.bipush 57, 2) := of_decide_eq_true (List.all_eq_true.mp dsX12_isDigit_0_ok (7, (.bipush 57, 2)) (List.mem_of_getElem? (i := 4) rfl))
theorem dX12_isDigit_9 : decode cX12_isDigit 9 = .ok (.if_icmp .gt 7, 3) := of_decide_eq_true (List.all_eq_true.mp dsX12_isDigit_0_ok (9, (.if_icmp .gt 7, 3)) (List.mem_of_getElem? (i := 5) rfl))
theorem dX12_isDigit_12 : decode cX12_isDigit 12 = .ok (.iconst 1, 1) := of_decide_eq_true (List.all_eq_true.mp dsX12_isDigit_0_ok (12, (.iconst 1, 1)) (List.mem_of_getElem? (i := 6) rfl))
theorem dX12_isDigit_13 : decode cX12_isDigit 13 = .ok (.goto 4, 3) := of_decide_eq_true (List.all_eq_true.mp dsX12_isDigit_0_ok (13, (.goto 4, 3)) (List.mem_of_getElem? (i := 7) rfl))
theorem dX12_isDigit_16 : decode cX12_isDigit 16 = .ok (.iconst 0, 1) := of_decide_eq_true (List.all_eq_true.mp dsX12_isDigit_0_ok (16, (.iconst 0, 1)) (List.mem_of_getElem? (i := 8) rfl))
theorem dX12_isDigit_17 : decode cX12_isDigit 17 = .ok (.ireturn, 1) := of_decide_eq_true (List.all_eq_true.mp dsX12_isDigit_0_ok (17, (.ireturn, 1)) (List.mem_of_getElem? (i := 9) rfl))
def fX12_isDigit (N : Nat)   (p0 : Int32) : Option (Int32) :=
  (if p0 < 48 then some 0 else (if 57 < p0 then some 0 else some 1))
set_option maxHeartbeats 4000000 in
set_option maxRecDepth 100000 in
theorem kX12_isDigit (l : Launch) (dC : Nat → ClassId) (dI : Nat → Nat → Nat) (cI cB cJ cZ cM : ClassId) (z : Nat) (ad : Nat → Nat) (N : Nat) (p0 : Int32) {r0 : Int32} (hf : fX12_isDigit N p0 = some r0) : xq_Ct l yX12_isDigit wsX12_isDigit { frames := 0, cells := 0, slots := 0, locals := 0 } (dC, dI) vwCl (xq_tys cI cB cJ cZ cM) z ad [.int p0] [] [] (some (.int r0)) := by
  intro sz
  refine Met.ofW (cc := cX12_isDigit) (maxL := 1) (ret := (some .boolean)) (by decide) rfl ?_
  intro p e s m args below meth c s₁ B hml hv
  obtain ⟨rfl, hsz, hP, hK, hD0, hE, hz⟩ := hv
  have hx := B.exec
  have hb := B.bytes
  have hr := B.returns
  have hts := atoms_spec (ws := wsX12_isDigit) B.pre
  have hown : s.vm.findClass RX12 = some m.cls := findClass_of_methodNamed B.named
  have hlocks := B.notSynchronized
  subst hsz
  have hD := hD0.self (sz := s.heap.size)
  have hN := xq_Env.of hE hz hD0
  generalize hAe : va_A [] s.heap.size = A at hD hN ⊢
  have hA : ∀ q : Nat, s.heap.size ≤ q → A q := fun q h => by rw [← hAe]; exact Or.inr h
  clear hAe hD0
  have hS : va_S A s.heap s.heap [] := va_S.rf
  have hl := lv_entry ([.int p0]) (n := 1) (Nat.le_of_ble_eq_true rfl)
  rw [lg_entry_eq]
  generalize (lg_sl ([.int p0]) ++ List.replicate (1 - (lg_sl ([.int p0])).length) Slot.unset).toArray = ls at hl ⊢
  have hl : lv_has ls 1 [(0, .int p0)] := hl
  unfold fX12_isDigit at hf
  refine lv_iload_n hx hb dX12_isDigit_0 rfl (lv_at hl 0 rfl) ?_
  refine lv_bipush (v := 48) hx hb dX12_isDigit_1 (by decide) ?_
  refine lv_icmp_lt (tgt := 16) hx hb dX12_isDigit_3 (by decide) (fun c_ => ?_) (fun c_ => ?_)
  · have hf := xq_pos hf c_
    refine lv_iconst (v := 0) hx hb dX12_isDigit_16 (by decide) ?_
    have hP9 := hP
    have hD9 := hD
    have hS9 := hS
    cases hf
    exact xq_zret hx hb hr (by decide +kernel) hlocks hK hP9 hD9 hS9 dX12_isDigit_17
  · have hf := xq_neg hf c_
    refine lv_iload_n hx hb dX12_isDigit_6 rfl (lv_at hl 0 rfl) ?_
    refine lv_bipush (v := 57) hx hb dX12_isDigit_7 (by decide) ?_
    refine lv_icmp_gt (tgt := 16) hx hb dX12_isDigit_9 (by decide) (fun c_ => ?_) (fun c_ => ?_)
    · have hf := xq_pos hf c_
      refine lv_iconst (v := 0) hx hb dX12_isDigit_16 (by decide) ?_
      have hP9 := hP
      have hD9 := hD
      have hS9 := hS
      cases hf
      exact xq_zret hx hb hr (by decide +kernel) hlocks hK hP9 hD9 hS9 dX12_isDigit_17
    · have hf := xq_neg hf c_
      refine lv_iconst (v := 1) hx hb dX12_isDigit_12 (by decide) ?_
      refine lv_goto (tgt := 17) hx hb dX12_isDigit_13 (by decide) ?_
      have hP9 := hP
      have hD9 := hD
      have hS9 := hS
      cases hf
      exact xq_zret hx hb hr (by decide +kernel) hlocks hK hP9 hD9 hS9 dX12_isDigit_17
set_option maxRecDepth 20000 in
theorem ggX12_lex_X12_blame : GoodIn wsX12_lex wsX12_blame := goodIn_r _ [6, 7, 8, 9, 10, 11, 12, 13, 14, 15, 16, 17, 18, 19, 20, 21, 22, 23, 24, 25, 26, 27, 28, 29, 30, 31, 32, 33, 34, 35, 36, 37, 38, 39, 40, 41, 42, 43, 44, 45, 46, 47, 48, 49, 50, 51, 52, 53, 54, 55, 56, 57, 58, 59, 60, 61, 62, 63, 64, 65, 66, 67, 68, 69, 70, 71, 72, 73, 74, 75, 76, 77, 78] rfl (by decide +kernel)
set_option maxRecDepth 20000 in
theorem gX12_lex_X12_blame : GoodIn wsX12_lex (wsV RX12 233 RX12 yX12_blame wsX12_blame) := goodIn_app (goodIn_of _ (by decide +kernel)) ggX12_lex_X12_blame
def dsX12_lex_0 : List (Nat × Instr × Nat) := [(0, (.aload_n 0, 1)), (1, (.getfield 48, 3)), (4, (.iconst (-1), 1)), (5, (.if_icmp .eq 12, 3)), (8, (.aload_n 0, 1)), (9, (.iconst 1, 1)), (10, (.aload_n 0, 1)), (11, (.getfield 48, 3)), (14, (.invokevirtual 233, 3)), (17, (.return_, 1))]
theorem dsX12_lex_0_ok : (dsX12_lex_0.all fun q => decide (decode cX12_lex q.1 = .ok q.2)) = true := by decide +kernel
theorem dX12_lex_0 : decode cX12_lex 0 = .ok (.aload_n 0, 1) := of_decide_eq_true (List.all_eq_true.mp dsX12_lex_0_ok (0, (.aload_n 0, 1)) (List.mem_of_getElem? (i := 0) rfl))
theorem dX12_lex_1 : decode cX12_lex 1 = .ok (.getfield 48, 3) := of_decide_eq_true (List.all_eq_true.mp dsX12_lex_0_ok (1, (.getfield 48, 3)) (List.mem_of_getElem? (i := 1) rfl))
theorem dX12_lex_4 : decode cX12_lex 4 = .ok (.iconst (-1), 1) := of_decide_eq_true (List.all_eq_true.mp dsX12_lex_0_ok (4, (.iconst (-1), 1)) (List.mem_of_getElem? (i := 2) rfl))
theorem dX12_lex_5 : decode cX12_lex 5 = .ok (.if_icmp .eq 12, 3) := of_decide_eq_true (List.all_eq_true.mp dsX12_lex_0_ok (5, (.if_icmp .eq 12, 3)) (List.mem_of_getElem? (i := 3) rfl))
theorem dX12_lex_8 : decode cX12_lex 8 = .ok (.aload_n 0, 1) := of_decide_eq_true (List.all_eq_true.mp dsX12_lex_0_ok (8, (.aload_n 0, 1)) (List.mem_of_getElem? (i := 4) rfl))
theorem dX12_lex_9 : decode cX12_lex 9 = .ok (.iconst 1, 1) := of_decide_eq_true (List.all_eq_true.mp dsX12_lex_0_ok (9, (.iconst 1, 1)) (List.mem_of_getElem? (i := 5) rfl))
theorem dX12_lex_10 : decode cX12_lex 10 = .ok (.aload_n 0, 1) := of_decide_eq_true (List.all_eq_true.mp dsX12_lex_0_ok (10, (.aload_n 0, 1)) (List.mem_of_getElem? (i := 6) rfl))
theorem dX12_lex_11 : decode cX12_lex 11 = .ok (.getfield 48, 3) := of_decide_eq_true (List.all_eq_true.mp dsX12_lex_0_ok (11, (.getfield 48, 3)) (List.mem_of_getElem? (i := 7) rfl))
theorem dX12_lex_14 : decode cX12_lex 14 = .ok (.invokevirtual 233, 3) := of_decide_eq_true (List.all_eq_true.mp dsX12_lex_0_ok (14, (.invokevirtual 233, 3)) (List.mem_of_getElem? (i := 8) rfl))
theorem dX12_lex_17 : decode cX12_lex 17 = .ok (.return_, 1) := of_decide_eq_true (List.all_eq_true.mp dsX12_lex_0_ok (17, (.return_, 1)) (List.mem_of_getElem? (i := 9) rfl))
def fX12_lex (N : Nat) (mmI : Nat → Int32)   : Option ((Nat → Int32)) :=
  (if (mmI 12) = ((-1)) then some mmI else (xq_bd (fX12_blame N mmI 1 (mmI 12)) fun r_1 => some r_1))
set_option maxHeartbeats 4000000 in
set_option maxRecDepth 100000 in
theorem kX12_lex (l : Launch) (dC : Nat → ClassId) (dI : Nat → Nat → Nat) (cI cB cJ cZ cM : ClassId) (z : Nat) (ad : Nat → Nat) (N : Nat) (a_p0 : Nat) (mmI : Nat → Int32) (mmJ : Nat → Int64) (mmR : Nat → Nat) {r0 : Nat → Int32} (hf : fX12_lex N mmI = some r0) : xq_Ct l yX12_lex wsX12_lex { frames := 1, cells := 0, slots := 0, locals := 22 } (dC, dI) vwCl (xq_tys cI cB cJ cZ cM) z ad [.ref a_p0] [(a_p0, .inr (12, oX12 mmI mmJ mmR))] [(a_p0, .inr (12, oX12 r0 mmJ mmR))] none := by
  intro sz
  refine Met.ofW (cc := cX12_lex) (maxL := 1) (ret := none) (by decide) rfl ?_
  intro p e s m args below meth c s₁ B hml hv
  obtain ⟨rfl, hsz, hP, hK, hD0, hE, hz⟩ := hv
  have hx := B.exec
  have hb := B.bytes
  have hr := B.returns
  have hts := atoms_spec (ws := wsX12_lex) B.pre
  have hown : s.vm.findClass RX12 = some m.cls := findClass_of_methodNamed B.named
  have hlocks := B.notSynchronized
  subst hsz
  have hD := hD0.self (sz := s.heap.size)
  have hN := xq_Env.of hE hz hD0
  generalize hAe : va_A [(a_p0, .inr (12, oX12 mmI mmJ mmR))] s.heap.size = A at hD hN ⊢
  have hA : ∀ q : Nat, s.heap.size ≤ q → A q := fun q h => by rw [← hAe]; exact Or.inr h
  clear hAe hD0
  have hS : va_S A s.heap s.heap [] := va_S.rf
  have hl := lv_entry ([.ref a_p0]) (n := 1) (Nat.le_of_ble_eq_true rfl)
  rw [lg_entry_eq]
  generalize (lg_sl ([.ref a_p0]) ++ List.replicate (1 - (lg_sl ([.ref a_p0])).length) Slot.unset).toArray = ls at hl ⊢
  have hl : lv_has ls 1 [(0, .ref a_p0)] := hl
  have hw0 := hts (.fieldLink RX12 48 "DistantVoiceModel" "lexAt" "I") (by decide +kernel)
  have hinX12 : ∀ w ∈ wsX120, w ∈ wsX12_lex := fun w h => List.mem_cons_of_mem _ (List.mem_append_right _ h)
  unfold fX12_lex at hf
  refine lv_aload_n hx hb dX12_lex_0 rfl (lv_at hl 0 rfl) ?_
  refine va_get (D := (dC, dI)) (ci := 12) (v := .int (mmI 12)) (C := RX12) (T := TX12) (N := 70) hx hb hts hinX12 hown hK hP 0 rfl rfl 12 (by decide) hw0 (fun _ h9 => h9) rfl dX12_lex_1 ?_
  refine lv_iconst (v := (-1)) hx hb dX12_lex_4 (by decide) ?_
  refine lv_icmp_eq (tgt := 17) hx hb dX12_lex_5 (by decide) (fun c_ => ?_) (fun c_ => ?_)
  · have hf := xq_pos hf c_
    have hP9 := hP
    have hD9 := hD
    have hS9 := hS
    cases hf
    exact xq_vret hx hb hr hlocks hK hP9 hD9 hS9 dX12_lex_17
  · have hf := xq_neg hf c_
    refine lv_aload_n hx hb dX12_lex_8 rfl (lv_at hl 0 rfl) ?_
    refine lv_iconst (v := 1) hx hb dX12_lex_9 (by decide) ?_
    refine lv_aload_n hx hb dX12_lex_10 rfl (lv_at hl 0 rfl) ?_
    refine va_get (D := (dC, dI)) (ci := 12) (v := .int (mmI 12)) (C := RX12) (T := TX12) (N := 70) hx hb hts hinX12 hown hK hP 0 rfl rfl 12 (by decide) hw0 (fun _ h9 => h9) rfl dX12_lex_11 ?_
    obtain ⟨r_1, h_2, hf⟩ := xq_bd_some hf
    refine xq_callV (As := [.int 1, .int (mmI 12)]) (rest := []) (ci := 12) (q0 := 0) ⟨hx, hb, hml, hown, hts⟩ (kX12_blame l dC dI cI cB cJ cZ cM z ad N a_p0 mmI mmJ mmR 1 (mmI 12) h_2) (cwV 2 hts gX12_lex_X12_blame rfl rfl rfl (by decide +kernel) ⟨Nat.le_of_ble_eq_true rfl, Nat.le_of_ble_eq_true rfl⟩) hN hK hP hD hS hA [0] (by decide) rfl rfl rfl rfl rfl rfl hl.1 rfl (Nat.le_of_ble_eq_true rfl) dX12_lex_14 ⟨Nat.zero_le _, Nat.zero_le _⟩ (fun H locs hP hD hS => ?_)
    have hP : va_P (dC, dI) vwCl [(a_p0, .inr (12, oX12 r_1 mmJ mmR))] H := hP
    have hD : va_D A [(a_p0, .inr (12, oX12 r_1 mmJ mmR))] := hD
    refine W.eq (g2 := F0 m 17 ls []) rfl ?_
    have hP9 := hP
    have hD9 := hD
    have hS9 := hS
    cases hf
    exact xq_vret hx hb hr hlocks hK hP9 hD9 hS9 dX12_lex_17
set_option maxRecDepth 20000 in
theorem ggX12_ahead_X12_isLetter : GoodIn wsX12_ahead wsX12_isLetter := goodIn_r _ [12] rfl (by decide +kernel)
set_option maxRecDepth 20000 in
theorem gX12_ahead_X12_isLetter : GoodIn wsX12_ahead (va_wsS RX12 237 yX12_isLetter wsX12_isLetter) := goodIn_app (goodIn_of _ (by decide +kernel)) ggX12_ahead_X12_isLetter
set_option maxRecDepth 20000 in
theorem ggX12_ahead_X12_isDigit : GoodIn wsX12_ahead wsX12_isDigit := goodIn_r _ [15] rfl (by decide +kernel)
set_option maxRecDepth 20000 in
theorem gX12_ahead_X12_isDigit : GoodIn wsX12_ahead (va_wsS RX12 241 yX12_isDigit wsX12_isDigit) := goodIn_app (goodIn_of _ (by decide +kernel)) ggX12_ahead_X12_isDigit
def dsX12_ahead_0 : List (Nat × Instr × Nat) := [(0, (.aload_n 0, 1)), (1, (.getfield 26, 3)), (4, (.istore_n 1, 1)), (5, (.iload_n 1, 1)), (6, (.aload_n 0, 1)), (7, (.getfield 17, 3)), (10, (.if_icmp .ge 31, 3)), (13, (.aload_n 0, 1)), (14, (.getfield 7, 3)), (17, (.iload_n 1, 1)), (18, (.iaload, 1)), (19, (.bipush 32, 2)), (21, (.if_icmp .eq 14, 3)), (24, (.aload_n 0, 1)), (25, (.getfield 7, 3)), (28, (.iload_n 1, 1)), (29, (.iaload, 1)), (30, (.bipush 10, 2)), (32, (.if_icmp .ne 9, 3)), (35, (.iinc 1 1, 3)), (38, (.goto (-33), 3)), (41, (.aload_n 0, 1)), (42, (.iload_n 1, 1)), (43, (.putfield 23, 3)), (46, (.aload_n 0, 1)), (47, (.iload_n 1, 1)), (48, (.putfield 26, 3)), (51, (.aload_n 0, 1)), (52, (.iconst 0, 1)), (53, (.putfield 20, 3)), (56, (.aload_n 0, 1)), (57, (.iconst (-1), 1)), (58, (.putfield 48, 3)), (61, (.iload_n 1, 1)), (62, (.aload_n 0, 1)), (63, (.getfield 17, 3)), (66, (.if_icmp .lt 4, 3)), (69, (.return_, 1)), (70, (.aload_n 0, 1)), (71, (.getfield 7, 3)), (74, (.iload_n 1, 1)), (75, (.iaload, 1)), (76, (.invokestatic 237, 3)), (79, (.istore_n 2, 1)), (80, (.aload_n 0, 1)), (81, (.getfield 7, 3)), (84, (.iload_n 1, 1)), (85, (.iaload, 1)), (86, (.invokestatic 241, 3)), (89, (.istore_n 3, 1)), (90, (.iload_n 2, 1)), (91, (.ifCond .ne 7, 3)), (94, (.iload_n 3, 1)), (95, (.ifCond .eq 40, 3)), (98, (.iload_n 1, 1)), (99, (.ifCond .le 36, 3)), (102, (.aload_n 0, 1)), (103, (.getfield 7, 3)), (106, (.iload_n 1, 1)), (107, (.iconst 1, 1))]
theorem dsX12_ahead_0_ok : (dsX12_ahead_0.all fun q => decide (decode cX12_ahead q.1 = .ok q.2)) = true := by decide +kernel
theorem dX12_ahead_0 : decode cX12_ahead 0 = .ok (.aload_n 0, 1) := of_decide_eq_true (List.all_eq_true.mp dsX12_ahead_0_ok (0, (.aload_n 0, 1)) (List.mem_of_getElem? (i := 0) rfl))
theorem dX12_ahead_1 : decode cX12_ahead 1 = .ok (.getfield 26, 3) := of_decide_eq_true (List.all_eq_true.mp dsX12_ahead_0_ok (1, (.getfield 26, 3)) (List.mem_of_getElem? (i := 1) rfl))
theorem dX12_ahead_4 : decode cX12_ahead 4 = .ok (.istore_n 1, 1) := of_decide_eq_true (List.all_eq_true.mp dsX12_ahead_0_ok (4, (.istore_n 1, 1)) (List.mem_of_getElem? (i := 2) rfl))
theorem dX12_ahead_5 : decode cX12_ahead 5 = .ok (.iload_n 1, 1) := of_decide_eq_true (List.all_eq_true.mp dsX12_ahead_0_ok (5, (.iload_n 1, 1)) (List.mem_of_getElem? (i := 3) rfl))
theorem dX12_ahead_6 : decode cX12_ahead 6 = .ok (.aload_n 0, 1) := of_decide_eq_true (List.all_eq_true.mp dsX12_ahead_0_ok (6, (.aload_n 0, 1)) (List.mem_of_getElem? (i := 4) rfl))
theorem dX12_ahead_7 : decode cX12_ahead 7 = .ok (.getfield 17, 3) := of_decide_eq_true (List.all_eq_true.mp dsX12_ahead_0_ok (7, (.getfield 17, 3)) (List.mem_of_getElem? (i := 5) rfl))
theorem dX12_ahead_10 : decode cX12_ahead 10 = .ok (.if_icmp .ge 31, 3) := of_decide_eq_true (List.all_eq_true.mp dsX12_ahead_0_ok (10, (.if_icmp .ge 31, 3)) (List.mem_of_getElem? (i := 6) rfl))
theorem dX12_ahead_13 : decode cX12_ahead 13 = .ok (.aload_n 0, 1) := of_decide_eq_true (List.all_eq_true.mp dsX12_ahead_0_ok (13, (.aload_n 0, 1)) (List.mem_of_getElem? (i := 7) rfl))
theorem dX12_ahead_14 : decode cX12_ahead 14 = .ok (.getfield 7, 3) := of_decide_eq_true (List.all_eq_true.mp dsX12_ahead_0_ok (14, (.getfield 7, 3)) (List.mem_of_getElem? (i := 8) rfl))
theorem dX12_ahead_17 : decode cX12_ahead 17 = .ok (.iload_n 1, 1) := of_decide_eq_true (List.all_eq_true.mp dsX12_ahead_0_ok (17, (.iload_n 1, 1)) (List.mem_of_getElem? (i := 9) rfl))
theorem dX12_ahead_18 : decode cX12_ahead 18 = .ok (.iaload, 1) := of_decide_eq_true (List.all_eq_true.mp dsX12_ahead_0_ok (18, (.iaload, 1)) (List.mem_of_getElem? (i := 10) rfl))
theorem dX12_ahead_19 : decode cX12_ahead 19 = .ok (.bipush 32, 2) := of_decide_eq_true (List.all_eq_true.mp dsX12_ahead_0_ok (19, (.bipush 32, 2)) (List.mem_of_getElem? (i := 11) rfl))
theorem dX12_ahead_21 : decode cX12_ahead 21 = .ok (.if_icmp .eq 14, 3) := of_decide_eq_true (List.all_eq_true.mp dsX12_ahead_0_ok (21, (.if_icmp .eq 14, 3)) (List.mem_of_getElem? (i := 12) rfl))
theorem dX12_ahead_24 : decode cX12_ahead 24 = .ok (.aload_n 0, 1) := of_decide_eq_true (List.all_eq_true.mp dsX12_ahead_0_ok (24, (.aload_n 0, 1)) (List.mem_of_getElem? (i := 13) rfl))
theorem dX12_ahead_25 : decode cX12_ahead 25 = .ok (.getfield 7, 3) := of_decide_eq_true (List.all_eq_true.mp dsX12_ahead_0_ok (25, (.getfield 7, 3)) (List.mem_of_getElem? (i := 14) rfl))
theorem dX12_ahead_28 : decode cX12_ahead 28 = .ok (.iload_n 1, 1) := of_decide_eq_true (List.all_eq_true.mp dsX12_ahead_0_ok (28, (.iload_n 1, 1)) (List.mem_of_getElem? (i := 15) rfl))
theorem dX12_ahead_29 : decode cX12_ahead 29 = .ok (.iaload, 1) := of_decide_eq_true (List.all_eq_true.mp dsX12_ahead_0_ok (29, (.iaload, 1)) (List.mem_of_getElem? (i := 16) rfl))
theorem dX12_ahead_30 : decode cX12_ahead 30 = .ok (.bipush 10, 2) := of_decide_eq_true (List.all_eq_true.mp dsX12_ahead_0_ok (30, (.bipush 10, 2)) (List.mem_of_getElem? (i := 17) rfl))
theorem dX12_ahead_32 : decode cX12_ahead 32 = .ok (.if_icmp .ne 9, 3) := of_decide_eq_true (List.all_eq_true.mp dsX12_ahead_0_ok (32, (.if_icmp .ne 9, 3)) (List.mem_of_getElem? (i := 18) rfl))
theorem dX12_ahead_35 : decode cX12_ahead 35 = .ok (.iinc 1 1, 3) := of_decide_eq_true (List.all_eq_true.mp dsX12_ahead_0_ok (35, (.iinc 1 1, 3)) (List.mem_of_getElem? (i := 19) rfl))
theorem dX12_ahead_38 : decode cX12_ahead 38 = .ok (.goto (-33), 3) := of_decide_eq_true (List.all_eq_true.mp dsX12_ahead_0_ok (38, (.goto (-33), 3)) (List.mem_of_getElem? (i := 20) rfl))
theorem dX12_ahead_41 : decode cX12_ahead 41 = .ok (.aload_n 0, 1) := of_decide_eq_true (List.all_eq_true.mp dsX12_ahead_0_ok (41, (.aload_n 0, 1)) (List.mem_of_getElem? (i := 21) rfl))
theorem dX12_ahead_42 : decode cX12_ahead 42 = .ok (.iload_n 1, 1) := of_decide_eq_true (List.all_eq_true.mp dsX12_ahead_0_ok (42, (.iload_n 1, 1)) (List.mem_of_getElem? (i := 22) rfl))
theorem dX12_ahead_43 : decode cX12_ahead 43 = .ok (.putfield 23, 3) := of_decide_eq_true (List.all_eq_true.mp dsX12_ahead_0_ok (43, (.putfield 23, 3)) (List.mem_of_getElem? (i := 23) rfl))
theorem dX12_ahead_46 : decode cX12_ahead 46 = .ok (.aload_n 0, 1) := of_decide_eq_true (List.all_eq_true.mp dsX12_ahead_0_ok (46, (.aload_n 0, 1)) (List.mem_of_getElem? (i := 24) rfl))
theorem dX12_ahead_47 : decode cX12_ahead 47 = .ok (.iload_n 1, 1) := of_decide_eq_true (List.all_eq_true.mp dsX12_ahead_0_ok (47, (.iload_n 1, 1)) (List.mem_of_getElem? (i := 25) rfl))
theorem dX12_ahead_48 : decode cX12_ahead 48 = .ok (.putfield 26, 3) := of_decide_eq_true (List.all_eq_true.mp dsX12_ahead_0_ok (48, (.putfield 26, 3)) (List.mem_of_getElem? (i := 26) rfl))
theorem dX12_ahead_51 : decode cX12_ahead 51 = .ok (.aload_n 0, 1) := of_decide_eq_true (List.all_eq_true.mp dsX12_ahead_0_ok (51, (.aload_n 0, 1)) (List.mem_of_getElem? (i := 27) rfl))
theorem dX12_ahead_52 : decode cX12_ahead 52 = .ok (.iconst 0, 1) := of_decide_eq_true (List.all_eq_true.mp dsX12_ahead_0_ok (52, (.iconst 0, 1)) (List.mem_of_getElem? (i := 28) rfl))
theorem dX12_ahead_53 : decode cX12_ahead 53 = .ok (.putfield 20, 3) := of_decide_eq_true (List.all_eq_true.mp dsX12_ahead_0_ok (53, (.putfield 20, 3)) (List.mem_of_getElem? (i := 29) rfl))
theorem dX12_ahead_56 : decode cX12_ahead 56 = .ok (.aload_n 0, 1) := of_decide_eq_true (List.all_eq_true.mp dsX12_ahead_0_ok (56, (.aload_n 0, 1)) (List.mem_of_getElem? (i := 30) rfl))
theorem dX12_ahead_57 : decode cX12_ahead 57 = .ok (.iconst (-1), 1) := of_decide_eq_true (List.all_eq_true.mp dsX12_ahead_0_ok (57, (.iconst (-1), 1)) (List.mem_of_getElem? (i := 31) rfl))
theorem dX12_ahead_58 : decode cX12_ahead 58 = .ok (.putfield 48, 3) := of_decide_eq_true (List.all_eq_true.mp dsX12_ahead_0_ok (58, (.putfield 48, 3)) (List.mem_of_getElem? (i := 32) rfl))
theorem dX12_ahead_61 : decode cX12_ahead 61 = .ok (.iload_n 1, 1) := of_decide_eq_true (List.all_eq_true.mp dsX12_ahead_0_ok (61, (.iload_n 1, 1)) (List.mem_of_getElem? (i := 33) rfl))
theorem dX12_ahead_62 : decode cX12_ahead 62 = .ok (.aload_n 0, 1) := of_decide_eq_true (List.all_eq_true.mp dsX12_ahead_0_ok (62, (.aload_n 0, 1)) (List.mem_of_getElem? (i := 34) rfl))
theorem dX12_ahead_63 : decode cX12_ahead 63 = .ok (.getfield 17, 3) := of_decide_eq_true (List.all_eq_true.mp dsX12_ahead_0_ok (63, (.getfield 17, 3)) (List.mem_of_getElem? (i := 35) rfl))
theorem dX12_ahead_66 : decode cX12_ahead 66 = .ok (.if_icmp .lt 4, 3) := of_decide_eq_true (List.all_eq_true.mp dsX12_ahead_0_ok (66, (.if_icmp .lt 4, 3)) (List.mem_of_getElem? (i := 36) rfl))
theorem dX12_ahead_69 : decode cX12_ahead 69 = .ok (.return_, 1) := of_decide_eq_true (List.all_eq_true.mp dsX12_ahead_0_ok (69, (.return_, 1)) (List.mem_of_getElem? (i := 37) rfl))
theorem dX12_ahead_70 : decode cX12_ahead 70 = .ok (.aload_n 0, 1) := of_decide_eq_true (List.all_eq_true.mp dsX12_ahead_0_ok (70, (.aload_n 0, 1)) (List.mem_of_getElem? (i := 38) rfl))
theorem dX12_ahead_71 : decode cX12_ahead 71 = .ok (.getfield 7, 3) := of_decide_eq_true (List.all_eq_true.mp dsX12_ahead_0_ok (71, (.getfield 7, 3)) (List.mem_of_getElem? (i := 39) rfl))
theorem dX12_ahead_74 : decode cX12_ahead 74 = .ok (.iload_n 1, 1) := of_decide_eq_true (List.all_eq_true.mp dsX12_ahead_0_ok (74, (.iload_n 1, 1)) (List.mem_of_getElem? (i := 40) rfl))
theorem dX12_ahead_75 : decode cX12_ahead 75 = .ok (.iaload, 1) := of_decide_eq_true (List.all_eq_true.mp dsX12_ahead_0_ok (75, (.iaload, 1)) (List.mem_of_getElem? (i := 41) rfl))
theorem dX12_ahead_76 : decode cX12_ahead 76 = .ok (.invokestatic 237, 3) := of_decide_eq_true (List.all_eq_true.mp dsX12_ahead_0_ok (76, (.invokestatic 237, 3)) (List.mem_of_getElem? (i := 42) rfl))
theorem dX12_ahead_79 : decode cX12_ahead 79 = .ok (.istore_n 2, 1) := of_decide_eq_true (List.all_eq_true.mp dsX12_ahead_0_ok (79, (.istore_n 2, 1)) (List.mem_of_getElem? (i := 43) rfl))
theorem dX12_ahead_80 : decode cX12_ahead 80 = .ok (.aload_n 0, 1) := of_decide_eq_true (List.all_eq_true.mp dsX12_ahead_0_ok (80, (.aload_n 0, 1)) (List.mem_of_getElem? (i := 44) rfl))
theorem dX12_ahead_81 : decode cX12_ahead 81 = .ok (.getfield 7, 3) := of_decide_eq_true (List.all_eq_true.mp dsX12_ahead_0_ok (81, (.getfield 7, 3)) (List.mem_of_getElem? (i := 45) rfl))
theorem dX12_ahead_84 : decode cX12_ahead 84 = .ok (.iload_n 1, 1) := of_decide_eq_true (List.all_eq_true.mp dsX12_ahead_0_ok (84, (.iload_n 1, 1)) (List.mem_of_getElem? (i := 46) rfl))
theorem dX12_ahead_85 : decode cX12_ahead 85 = .ok (.iaload, 1) := of_decide_eq_true (List.all_eq_true.mp dsX12_ahead_0_ok (85, (.iaload, 1)) (List.mem_of_getElem? (i := 47) rfl))
theorem dX12_ahead_86 : decode cX12_ahead 86 = .ok (.invokestatic 241, 3) := of_decide_eq_true (List.all_eq_true.mp dsX12_ahead_0_ok (86, (.invokestatic 241, 3)) (List.mem_of_getElem? (i := 48) rfl))
theorem dX12_ahead_89 : decode cX12_ahead 89 = .ok (.istore_n 3, 1) := of_decide_eq_true (List.all_eq_true.mp dsX12_ahead_0_ok (89, (.istore_n 3, 1)) (List.mem_of_getElem? (i := 49) rfl))
theorem dX12_ahead_90 : decode cX12_ahead 90 = .ok (.iload_n 2, 1) := of_decide_eq_true (List.all_eq_true.mp dsX12_ahead_0_ok (90, (.iload_n 2, 1)) (List.mem_of_getElem? (i := 50) rfl))
theorem dX12_ahead_91 : decode cX12_ahead 91 = .ok (.ifCond .ne 7, 3) := of_decide_eq_true (List.all_eq_true.mp dsX12_ahead_0_ok (91, (.ifCond .ne 7, 3)) (List.mem_of_getElem? (i := 51) rfl))
theorem dX12_ahead_94 : decode cX12_ahead 94 = .ok (.iload_n 3, 1) := of_decide_eq_true (List.all_eq_true.mp dsX12_ahead_0_ok (94, (.iload_n 3, 1)) (List.mem_of_getElem? (i := 52) rfl))
theorem dX12_ahead_95 : decode cX12_ahead 95 = .ok (.ifCond .eq 40, 3) := of_decide_eq_true (List.all_eq_true.mp dsX12_ahead_0_ok (95, (.ifCond .eq 40, 3)) (List.mem_of_getElem? (i := 53) rfl))
theorem dX12_ahead_98 : decode cX12_ahead 98 = .ok (.iload_n 1, 1) := of_decide_eq_true (List.all_eq_true.mp dsX12_ahead_0_ok (98, (.iload_n 1, 1)) (List.mem_of_getElem? (i := 54) rfl))
theorem dX12_ahead_99 : decode cX12_ahead 99 = .ok (.ifCond .le 36, 3) := of_decide_eq_true (List.all_eq_true.mp dsX12_ahead_0_ok (99, (.ifCond .le 36, 3)) (List.mem_of_getElem? (i := 55) rfl))
theorem dX12_ahead_102 : decode cX12_ahead 102 = .ok (.aload_n 0, 1) := of_decide_eq_true (List.all_eq_true.mp dsX12_ahead_0_ok (102, (.aload_n 0, 1)) (List.mem_of_getElem? (i := 56) rfl))
theorem dX12_ahead_103 : decode cX12_ahead 103 = .ok (.getfield 7, 3) := of_decide_eq_true (List.all_eq_true.mp dsX12_ahead_0_ok (103, (.getfield 7, 3)) (List.mem_of_getElem? (i := 57) rfl))
theorem dX12_ahead_106 : decode cX12_ahead 106 = .ok (.iload_n 1, 1) := of_decide_eq_true (List.all_eq_true.mp dsX12_ahead_0_ok (106, (.iload_n 1, 1)) (List.mem_of_getElem? (i := 58) rfl))
theorem dX12_ahead_107 : decode cX12_ahead 107 = .ok (.iconst 1, 1) := of_decide_eq_true (List.all_eq_true.mp dsX12_ahead_0_ok (107, (.iconst 1, 1)) (List.mem_of_getElem? (i := 59) rfl))
def dsX12_ahead_1 : List (Nat × Instr × Nat) := [(108, (.isub, 1)), (109, (.iaload, 1)), (110, (.invokestatic 237, 3)), (113, (.ifCond .ne 17, 3)), (116, (.aload_n 0, 1)), (117, (.getfield 7, 3)), (120, (.iload_n 1, 1)), (121, (.iconst 1, 1)), (122, (.isub, 1)), (123, (.iaload, 1)), (124, (.invokestatic 241, 3)), (127, (.ifCond .eq 8, 3)), (130, (.aload_n 0, 1)), (131, (.iload_n 1, 1)), (132, (.putfield 48, 3)), (135, (.aload_n 0, 1)), (136, (.iconst 0, 1)), (137, (.putfield 29, 3)), (140, (.aload_n 0, 1)), (141, (.lconst 0, 1)), (142, (.putfield 32, 3)), (145, (.aload_n 0, 1)), (146, (.iconst 3, 1)), (147, (.putfield 20, 3)), (150, (.aload_n 0, 1)), (151, (.iload_n 1, 1)), (152, (.iconst 1, 1)), (153, (.iadd, 1)), (154, (.putfield 26, 3)), (157, (.iload_n 2, 1)), (158, (.ifCond .ne 18, 3)), (161, (.iload_n 3, 1)), (162, (.ifCond .ne 14, 3)), (165, (.aload_n 0, 1)), (166, (.aload_n 0, 1)), (167, (.getfield 7, 3)), (170, (.iload_n 1, 1)), (171, (.iaload, 1)), (172, (.putfield 29, 3)), (175, (.return_, 1)), (176, (.aload_n 0, 1)), (177, (.iload_n 2, 1)), (178, (.ifCond .eq 7, 3)), (181, (.iconst 1, 1)), (182, (.goto 4, 3)), (185, (.iconst 2, 1)), (186, (.putfield 20, 3)), (189, (.iload_n 2, 1)), (190, (.ifCond .eq 8, 3)), (193, (.bipush 6, 2)), (195, (.goto 4, 3)), (198, (.iconst 4, 1)), (199, (.istore 4, 2)), (201, (.iconst 0, 1)), (202, (.istore 5, 2)), (204, (.iload_n 1, 1)), (205, (.aload_n 0, 1)), (206, (.getfield 17, 3)), (209, (.if_icmp .ge 125, 3)), (212, (.iload_n 2, 1))]
theorem dsX12_ahead_1_ok : (dsX12_ahead_1.all fun q => decide (decode cX12_ahead q.1 = .ok q.2)) = true := by decide +kernel
theorem dX12_ahead_108 : decode cX12_ahead 108 = .ok (.isub, 1) := of_decide_eq_true (List.all_eq_true.mp dsX12_ahead_1_ok (108, (.isub, 1)) (List.mem_of_getElem? (i := 0) rfl))
theorem dX12_ahead_109 : decode cX12_ahead 109 = .ok (.iaload, 1) := of_decide_eq_true (List.all_eq_true.mp dsX12_ahead_1_ok (109, (.iaload, 1)) (List.mem_of_getElem? (i := 1) rfl))
theorem dX12_ahead_110 : decode cX12_ahead 110 = .ok (.invokestatic 237, 3) := of_decide_eq_true (List.all_eq_true.mp dsX12_ahead_1_ok (110, (.invokestatic 237, 3)) (List.mem_of_getElem? (i := 2) rfl))
theorem dX12_ahead_113 : decode cX12_ahead 113 = .ok (.ifCond .ne 17, 3) := of_decide_eq_true (List.all_eq_true.mp dsX12_ahead_1_ok (113, (.ifCond .ne 17, 3)) (List.mem_of_getElem? (i := 3) rfl))
theorem dX12_ahead_116 : decode cX12_ahead 116 = .ok (.aload_n 0, 1) := of_decide_eq_true (List.all_eq_true.mp dsX12_ahead_1_ok (116, (.aload_n 0, 1)) (List.mem_of_getElem? (i := 4) rfl))
theorem dX12_ahead_117 : decode cX12_ahead 117 = .ok (.getfield 7, 3) := of_decide_eq_true (List.all_eq_true.mp dsX12_ahead_1_ok (117, (.getfield 7, 3)) (List.mem_of_getElem? (i := 5) rfl))
theorem dX12_ahead_120 : decode cX12_ahead 120 = .ok (.iload_n 1, 1) := of_decide_eq_true (List.all_eq_true.mp dsX12_ahead_1_ok (120, (.iload_n 1, 1)) (List.mem_of_getElem? (i := 6) rfl))
theorem dX12_ahead_121 : decode cX12_ahead 121 = .ok (.iconst 1, 1) := of_decide_eq_true (List.all_eq_true.mp dsX12_ahead_1_ok (121, (.iconst 1, 1)) (List.mem_of_getElem? (i := 7) rfl))
theorem dX12_ahead_122 : decode cX12_ahead 122 = .ok (.isub, 1) := of_decide_eq_true (List.all_eq_true.mp dsX12_ahead_1_ok (122, (.isub, 1)) (List.mem_of_getElem? (i := 8) rfl))
theorem dX12_ahead_123 : decode cX12_ahead 123 = .ok (.iaload, 1) := of_decide_eq_true (List.all_eq_true.mp dsX12_ahead_1_ok (123, (.iaload, 1)) (List.mem_of_getElem? (i := 9) rfl))
theorem dX12_ahead_124 : decode cX12_ahead 124 = .ok (.invokestatic 241, 3) := of_decide_eq_true (List.all_eq_true.mp dsX12_ahead_1_ok (124, (.invokestatic 241, 3)) (List.mem_of_getElem? (i := 10) rfl))
theorem dX12_ahead_127 : decode cX12_ahead 127 = .ok (.ifCond .eq 8, 3) := of_decide_eq_true (List.all_eq_true.mp dsX12_ahead_1_ok (127, (.ifCond .eq 8, 3)) (List.mem_of_getElem? (i := 11) rfl))
theorem dX12_ahead_130 : decode cX12_ahead 130 = .ok (.aload_n 0, 1) := of_decide_eq_true (List.all_eq_true.mp dsX12_ahead_1_ok (130, (.aload_n 0, 1)) (List.mem_of_getElem? (i := 12) rfl))
theorem dX12_ahead_131 : decode cX12_ahead 131 = .ok (.iload_n 1, 1) := of_decide_eq_true (List.all_eq_true.mp dsX12_ahead_1_ok (131, (.iload_n 1, 1)) (List.mem_of_getElem? (i := 13) rfl))
theorem dX12_ahead_132 : decode cX12_ahead 132 = .ok (.putfield 48, 3) := of_decide_eq_true (List.all_eq_true.mp dsX12_ahead_1_ok (132, (.putfield 48, 3)) (List.mem_of_getElem? (i := 14) rfl))
theorem dX12_ahead_135 : decode cX12_ahead 135 = .ok (.aload_n 0, 1) := of_decide_eq_true (List.all_eq_true.mp dsX12_ahead_1_ok (135, (.aload_n 0, 1)) (List.mem_of_getElem? (i := 15) rfl))
theorem dX12_ahead_136 : decode cX12_ahead 136 = .ok (.iconst 0, 1) := of_decide_eq_true (List.all_eq_true.mp dsX12_ahead_1_ok (136, (.iconst 0, 1)) (List.mem_of_getElem? (i := 16) rfl))
theorem dX12_ahead_137 : decode cX12_ahead 137 = .ok (.putfield 29, 3) := of_decide_eq_true (List.all_eq_true.mp dsX12_ahead_1_ok (137, (.putfield 29, 3)) (List.mem_of_getElem? (i := 17) rfl))
theorem dX12_ahead_140 : decode cX12_ahead 140 = .ok (.aload_n 0, 1) := of_decide_eq_true (List.all_eq_true.mp dsX12_ahead_1_ok (140, (.aload_n 0, 1)) (List.mem_of_getElem? (i := 18) rfl))
theorem dX12_ahead_141 : decode cX12_ahead 141 = .ok (.lconst 0, 1) := of_decide_eq_true (List.all_eq_true.mp dsX12_ahead_1_ok (141, (.lconst 0, 1)) (List.mem_of_getElem? (i := 19) rfl))
theorem dX12_ahead_142 : decode cX12_ahead 142 = .ok (.putfield 32, 3) := of_decide_eq_true (List.all_eq_true.mp dsX12_ahead_1_ok (142, (.putfield 32, 3)) (List.mem_of_getElem? (i := 20) rfl))
theorem dX12_ahead_145 : decode cX12_ahead 145 = .ok (.aload_n 0, 1) := of_decide_eq_true (List.all_eq_true.mp dsX12_ahead_1_ok (145, (.aload_n 0, 1)) (List.mem_of_getElem? (i := 21) rfl))
theorem dX12_ahead_146 : decode cX12_ahead 146 = .ok (.iconst 3, 1) := of_decide_eq_true (List.all_eq_true.mp dsX12_ahead_1_ok (146, (.iconst 3, 1)) (List.mem_of_getElem? (i := 22) rfl))
theorem dX12_ahead_147 : decode cX12_ahead 147 = .ok (.putfield 20, 3) := of_decide_eq_true (List.all_eq_true.mp dsX12_ahead_1_ok (147, (.putfield 20, 3)) (List.mem_of_getElem? (i := 23) rfl))
theorem dX12_ahead_150 : decode cX12_ahead 150 = .ok (.aload_n 0, 1) := of_decide_eq_true (List.all_eq_true.mp dsX12_ahead_1_ok (150, (.aload_n 0, 1)) (List.mem_of_getElem? (i := 24) rfl))
theorem dX12_ahead_151 : decode cX12_ahead 151 = .ok (.iload_n 1, 1) := of_decide_eq_true (List.all_eq_true.mp dsX12_ahead_1_ok (151, (.iload_n 1, 1)) (List.mem_of_getElem? (i := 25) rfl))
theorem dX12_ahead_152 : decode cX12_ahead 152 = .ok (.iconst 1, 1) := of_decide_eq_true (List.all_eq_true.mp dsX12_ahead_1_ok (152, (.iconst 1, 1)) (List.mem_of_getElem? (i := 26) rfl))
theorem dX12_ahead_153 : decode cX12_ahead 153 = .ok (.iadd, 1) := of_decide_eq_true (List.all_eq_true.mp dsX12_ahead_1_ok (153, (.iadd, 1)) (List.mem_of_getElem? (i := 27) rfl))
theorem dX12_ahead_154 : decode cX12_ahead 154 = .ok (.putfield 26, 3) := of_decide_eq_true (List.all_eq_true.mp dsX12_ahead_1_ok (154, (.putfield 26, 3)) (List.mem_of_getElem? (i := 28) rfl))
theorem dX12_ahead_157 : decode cX12_ahead 157 = .ok (.iload_n 2, 1) := of_decide_eq_true (List.all_eq_true.mp dsX12_ahead_1_ok (157, (.iload_n 2, 1)) (List.mem_of_getElem? (i := 29) rfl))
theorem dX12_ahead_158 : decode cX12_ahead 158 = .ok (.ifCond .ne 18, 3) := of_decide_eq_true (List.all_eq_true.mp dsX12_ahead_1_ok (158, (.ifCond .ne 18, 3)) (List.mem_of_getElem? (i := 30) rfl))
theorem dX12_ahead_161 : decode cX12_ahead 161 = .ok (.iload_n 3, 1) := of_decide_eq_true (List.all_eq_true.mp dsX12_ahead_1_ok (161, (.iload_n 3, 1)) (List.mem_of_getElem? (i := 31) rfl))
theorem dX12_ahead_162 : decode cX12_ahead 162 = .ok (.ifCond .ne 14, 3) := of_decide_eq_true (List.all_eq_true.mp dsX12_ahead_1_ok (162, (.ifCond .ne 14, 3)) (List.mem_of_getElem? (i := 32) rfl))
theorem dX12_ahead_165 : decode cX12_ahead 165 = .ok (.aload_n 0, 1) := of_decide_eq_true (List.all_eq_true.mp dsX12_ahead_1_ok (165, (.aload_n 0, 1)) (List.mem_of_getElem? (i := 33) rfl))
theorem dX12_ahead_166 : decode cX12_ahead 166 = .ok (.aload_n 0, 1) := of_decide_eq_true (List.all_eq_true.mp dsX12_ahead_1_ok (166, (.aload_n 0, 1)) (List.mem_of_getElem? (i := 34) rfl))
theorem dX12_ahead_167 : decode cX12_ahead 167 = .ok (.getfield 7, 3) := of_decide_eq_true (List.all_eq_true.mp dsX12_ahead_1_ok (167, (.getfield 7, 3)) (List.mem_of_getElem? (i := 35) rfl))
theorem dX12_ahead_170 : decode cX12_ahead 170 = .ok (.iload_n 1, 1) := of_decide_eq_true (List.all_eq_true.mp dsX12_ahead_1_ok (170, (.iload_n 1, 1)) (List.mem_of_getElem? (i := 36) rfl))
theorem dX12_ahead_171 : decode cX12_ahead 171 = .ok (.iaload, 1) := of_decide_eq_true (List.all_eq_true.mp dsX12_ahead_1_ok (171, (.iaload, 1)) (List.mem_of_getElem? (i := 37) rfl))
theorem dX12_ahead_172 : decode cX12_ahead 172 = .ok (.putfield 29, 3) := of_decide_eq_true (List.all_eq_true.mp dsX12_ahead_1_ok (172, (.putfield 29, 3)) (List.mem_of_getElem? (i := 38) rfl))
theorem dX12_ahead_175 : decode cX12_ahead 175 = .ok (.return_, 1) := of_decide_eq_true (List.all_eq_true.mp dsX12_ahead_1_ok (175, (.return_, 1)) (List.mem_of_getElem? (i := 39) rfl))
theorem dX12_ahead_176 : decode cX12_ahead 176 = .ok (.aload_n 0, 1) := of_decide_eq_true (List.all_eq_true.mp dsX12_ahead_1_ok (176, (.aload_n 0, 1)) (List.mem_of_getElem? (i := 40) rfl))
theorem dX12_ahead_177 : decode cX12_ahead 177 = .ok (.iload_n 2, 1) := of_decide_eq_true (List.all_eq_true.mp dsX12_ahead_1_ok (177, (.iload_n 2, 1)) (List.mem_of_getElem? (i := 41) rfl))
theorem dX12_ahead_178 : decode cX12_ahead 178 = .ok (.ifCond .eq 7, 3) := of_decide_eq_true (List.all_eq_true.mp dsX12_ahead_1_ok (178, (.ifCond .eq 7, 3)) (List.mem_of_getElem? (i := 42) rfl))
theorem dX12_ahead_181 : decode cX12_ahead 181 = .ok (.iconst 1, 1) := of_decide_eq_true (List.all_eq_true.mp dsX12_ahead_1_ok (181, (.iconst 1, 1)) (List.mem_of_getElem? (i := 43) rfl))
theorem dX12_ahead_182 : decode cX12_ahead 182 = .ok (.goto 4, 3) := of_decide_eq_true (List.all_eq_true.mp dsX12_ahead_1_ok (182, (.goto 4, 3)) (List.mem_of_getElem? (i := 44) rfl))
theorem dX12_ahead_185 : decode cX12_ahead 185 = .ok (.iconst 2, 1) := of_decide_eq_true (List.all_eq_true.mp dsX12_ahead_1_ok (185, (.iconst 2, 1)) (List.mem_of_getElem? (i := 45) rfl))
theorem dX12_ahead_186 : decode cX12_ahead 186 = .ok (.putfield 20, 3) := of_decide_eq_true (List.all_eq_true.mp dsX12_ahead_1_ok (186, (.putfield 20, 3)) (List.mem_of_getElem? (i := 46) rfl))
theorem dX12_ahead_189 : decode cX12_ahead 189 = .ok (.iload_n 2, 1) := of_decide_eq_true (List.all_eq_true.mp dsX12_ahead_1_ok (189, (.iload_n 2, 1)) (List.mem_of_getElem? (i := 47) rfl))
theorem dX12_ahead_190 : decode cX12_ahead 190 = .ok (.ifCond .eq 8, 3) := of_decide_eq_true (List.all_eq_true.mp dsX12_ahead_1_ok (190, (.ifCond .eq 8, 3)) (List.mem_of_getElem? (i := 48) rfl))
theorem dX12_ahead_193 : decode cX12_ahead 193 = .ok (.bipush 6, 2) := of_decide_eq_true (List.all_eq_true.mp dsX12_ahead_1_ok (193, (.bipush 6, 2)) (List.mem_of_getElem? (i := 49) rfl))
theorem dX12_ahead_195 : decode cX12_ahead 195 = .ok (.goto 4, 3) := of_decide_eq_true (List.all_eq_true.mp dsX12_ahead_1_ok (195, (.goto 4, 3)) (List.mem_of_getElem? (i := 50) rfl))
theorem dX12_ahead_198 : decode cX12_ahead 198 = .ok (.iconst 4, 1) := of_decide_eq_true (List.all_eq_true.mp dsX12_ahead_1_ok (198, (.iconst 4, 1)) (List.mem_of_getElem? (i := 51) rfl))
theorem dX12_ahead_199 : decode cX12_ahead 199 = .ok (.istore 4, 2) := of_decide_eq_true (List.all_eq_true.mp dsX12_ahead_1_ok (199, (.istore 4, 2)) (List.mem_of_getElem? (i := 52) rfl))
theorem dX12_ahead_201 : decode cX12_ahead 201 = .ok (.iconst 0, 1) := of_decide_eq_true (List.all_eq_true.mp dsX12_ahead_1_ok (201, (.iconst 0, 1)) (List.mem_of_getElem? (i := 53) rfl))
theorem dX12_ahead_202 : decode cX12_ahead 202 = .ok (.istore 5, 2) := of_decide_eq_true (List.all_eq_true.mp dsX12_ahead_1_ok (202, (.istore 5, 2)) (List.mem_of_getElem? (i := 54) rfl))
theorem dX12_ahead_204 : decode cX12_ahead 204 = .ok (.iload_n 1, 1) := of_decide_eq_true (List.all_eq_true.mp dsX12_ahead_1_ok (204, (.iload_n 1, 1)) (List.mem_of_getElem? (i := 55) rfl))
theorem dX12_ahead_205 : decode cX12_ahead 205 = .ok (.aload_n 0, 1) := of_decide_eq_true (List.all_eq_true.mp dsX12_ahead_1_ok (205, (.aload_n 0, 1)) (List.mem_of_getElem? (i := 56) rfl))
theorem dX12_ahead_206 : decode cX12_ahead 206 = .ok (.getfield 17, 3) := of_decide_eq_true (List.all_eq_true.mp dsX12_ahead_1_ok (206, (.getfield 17, 3)) (List.mem_of_getElem? (i := 57) rfl))
theorem dX12_ahead_209 : decode cX12_ahead 209 = .ok (.if_icmp .ge 125, 3) := of_decide_eq_true (List.all_eq_true.mp dsX12_ahead_1_ok (209, (.if_icmp .ge 125, 3)) (List.mem_of_getElem? (i := 58) rfl))
theorem dX12_ahead_212 : decode cX12_ahead 212 = .ok (.iload_n 2, 1) := of_decide_eq_true (List.all_eq_true.mp dsX12_ahead_1_ok (212, (.iload_n 2, 1)) (List.mem_of_getElem? (i := 59) rfl))
def dsX12_ahead_2 : List (Nat × Instr × Nat) := [(213, (.ifCond .eq 18, 3)), (216, (.aload_n 0, 1)), (217, (.getfield 7, 3)), (220, (.iload_n 1, 1)), (221, (.iaload, 1)), (222, (.invokestatic 237, 3)), (225, (.ifCond .eq 109, 3)), (228, (.goto 15, 3)), (231, (.aload_n 0, 1)), (232, (.getfield 7, 3)), (235, (.iload_n 1, 1)), (236, (.iaload, 1)), (237, (.invokestatic 241, 3)), (240, (.ifCond .eq 94, 3)), (243, (.iload 5, 2)), (245, (.iload 4, 2)), (247, (.if_icmp .ne 16, 3)), (250, (.aload_n 0, 1)), (251, (.getfield 48, 3)), (254, (.iconst (-1), 1)), (255, (.if_icmp .ne 8, 3)), (258, (.aload_n 0, 1)), (259, (.iload_n 1, 1)), (260, (.putfield 48, 3)), (263, (.iload 5, 2)), (265, (.iload 4, 2)), (267, (.if_icmp .ge 26, 3)), (270, (.iload_n 2, 1)), (271, (.ifCond .eq 22, 3)), (274, (.aload_n 0, 1)), (275, (.aload_n 0, 1)), (276, (.getfield 32, 3)), (279, (.bipush 8, 2)), (281, (.lshl, 1)), (282, (.aload_n 0, 1)), (283, (.getfield 7, 3)), (286, (.iload_n 1, 1)), (287, (.iaload, 1)), (288, (.i2l, 1)), (289, (.lor, 1)), (290, (.putfield 32, 3)), (293, (.iload 5, 2)), (295, (.iload 4, 2)), (297, (.if_icmp .ge 28, 3)), (300, (.iload_n 3, 1)), (301, (.ifCond .eq 24, 3)), (304, (.aload_n 0, 1)), (305, (.bipush 10, 2)), (307, (.aload_n 0, 1)), (308, (.getfield 29, 3)), (311, (.imul, 1)), (312, (.aload_n 0, 1)), (313, (.getfield 7, 3)), (316, (.iload_n 1, 1)), (317, (.iaload, 1)), (318, (.iadd, 1)), (319, (.bipush 48, 2)), (321, (.isub, 1)), (322, (.putfield 29, 3)), (325, (.iinc 5 1, 3))]
theorem dsX12_ahead_2_ok : (dsX12_ahead_2.all fun q => decide (decode cX12_ahead q.1 = .ok q.2)) = true := by decide +kernel
theorem dX12_ahead_213 : decode cX12_ahead 213 = .ok (.ifCond .eq 18, 3) := of_decide_eq_true (List.all_eq_true.mp dsX12_ahead_2_ok (213, (.ifCond .eq 18, 3)) (List.mem_of_getElem? (i := 0) rfl))
theorem dX12_ahead_216 : decode cX12_ahead 216 = .ok (.aload_n 0, 1) := of_decide_eq_true (List.all_eq_true.mp dsX12_ahead_2_ok (216, (.aload_n 0, 1)) (List.mem_of_getElem? (i := 1) rfl))
theorem dX12_ahead_217 : decode cX12_ahead 217 = .ok (.getfield 7, 3) := of_decide_eq_true (List.all_eq_true.mp dsX12_ahead_2_ok (217, (.getfield 7, 3)) (List.mem_of_getElem? (i := 2) rfl))
theorem dX12_ahead_220 : decode cX12_ahead 220 = .ok (.iload_n 1, 1) := of_decide_eq_true (List.all_eq_true.mp dsX12_ahead_2_ok (220, (.iload_n 1, 1)) (List.mem_of_getElem? (i := 3) rfl))
theorem dX12_ahead_221 : decode cX12_ahead 221 = .ok (.iaload, 1) := of_decide_eq_true (List.all_eq_true.mp dsX12_ahead_2_ok (221, (.iaload, 1)) (List.mem_of_getElem? (i := 4) rfl))
theorem dX12_ahead_222 : decode cX12_ahead 222 = .ok (.invokestatic 237, 3) := of_decide_eq_true (List.all_eq_true.mp dsX12_ahead_2_ok (222, (.invokestatic 237, 3)) (List.mem_of_getElem? (i := 5) rfl))
theorem dX12_ahead_225 : decode cX12_ahead 225 = .ok (.ifCond .eq 109, 3) := of_decide_eq_true (List.all_eq_true.mp dsX12_ahead_2_ok (225, (.ifCond .eq 109, 3)) (List.mem_of_getElem? (i := 6) rfl))
theorem dX12_ahead_228 : decode cX12_ahead 228 = .ok (.goto 15, 3) := of_decide_eq_true (List.all_eq_true.mp dsX12_ahead_2_ok (228, (.goto 15, 3)) (List.mem_of_getElem? (i := 7) rfl))
theorem dX12_ahead_231 : decode cX12_ahead 231 = .ok (.aload_n 0, 1) := of_decide_eq_true (List.all_eq_true.mp dsX12_ahead_2_ok (231, (.aload_n 0, 1)) (List.mem_of_getElem? (i := 8) rfl))
theorem dX12_ahead_232 : decode cX12_ahead 232 = .ok (.getfield 7, 3) := of_decide_eq_true (List.all_eq_true.mp dsX12_ahead_2_ok (232, (.getfield 7, 3)) (List.mem_of_getElem? (i := 9) rfl))
theorem dX12_ahead_235 : decode cX12_ahead 235 = .ok (.iload_n 1, 1) := of_decide_eq_true (List.all_eq_true.mp dsX12_ahead_2_ok (235, (.iload_n 1, 1)) (List.mem_of_getElem? (i := 10) rfl))
theorem dX12_ahead_236 : decode cX12_ahead 236 = .ok (.iaload, 1) := of_decide_eq_true (List.all_eq_true.mp dsX12_ahead_2_ok (236, (.iaload, 1)) (List.mem_of_getElem? (i := 11) rfl))
theorem dX12_ahead_237 : decode cX12_ahead 237 = .ok (.invokestatic 241, 3) := of_decide_eq_true (List.all_eq_true.mp dsX12_ahead_2_ok (237, (.invokestatic 241, 3)) (List.mem_of_getElem? (i := 12) rfl))
theorem dX12_ahead_240 : decode cX12_ahead 240 = .ok (.ifCond .eq 94, 3) := of_decide_eq_true (List.all_eq_true.mp dsX12_ahead_2_ok (240, (.ifCond .eq 94, 3)) (List.mem_of_getElem? (i := 13) rfl))
theorem dX12_ahead_243 : decode cX12_ahead 243 = .ok (.iload 5, 2) := of_decide_eq_true (List.all_eq_true.mp dsX12_ahead_2_ok (243, (.iload 5, 2)) (List.mem_of_getElem? (i := 14) rfl))
theorem dX12_ahead_245 : decode cX12_ahead 245 = .ok (.iload 4, 2) := of_decide_eq_true (List.all_eq_true.mp dsX12_ahead_2_ok (245, (.iload 4, 2)) (List.mem_of_getElem? (i := 15) rfl))
theorem dX12_ahead_247 : decode cX12_ahead 247 = .ok (.if_icmp .ne 16, 3) := of_decide_eq_true (List.all_eq_true.mp dsX12_ahead_2_ok (247, (.if_icmp .ne 16, 3)) (List.mem_of_getElem? (i := 16) rfl))
theorem dX12_ahead_250 : decode cX12_ahead 250 = .ok (.aload_n 0, 1) := of_decide_eq_true (List.all_eq_true.mp dsX12_ahead_2_ok (250, (.aload_n 0, 1)) (List.mem_of_getElem? (i := 17) rfl))
theorem dX12_ahead_251 : decode cX12_ahead 251 = .ok (.getfield 48, 3) := of_decide_eq_true (List.all_eq_true.mp dsX12_ahead_2_ok (251, (.getfield 48, 3)) (List.mem_of_getElem? (i := 18) rfl))
theorem dX12_ahead_254 : decode cX12_ahead 254 = .ok (.iconst (-1), 1) := of_decide_eq_true (List.all_eq_true.mp dsX12_ahead_2_ok (254, (.iconst (-1), 1)) (List.mem_of_getElem? (i := 19) rfl))
theorem dX12_ahead_255 : decode cX12_ahead 255 = .ok (.if_icmp .ne 8, 3) := of_decide_eq_true (List.all_eq_true.mp dsX12_ahead_2_ok (255, (.if_icmp .ne 8, 3)) (List.mem_of_getElem? (i := 20) rfl))
theorem dX12_ahead_258 : decode cX12_ahead 258 = .ok (.aload_n 0, 1) := of_decide_eq_true (List.all_eq_true.mp dsX12_ahead_2_ok (258, (.aload_n 0, 1)) (List.mem_of_getElem? (i := 21) rfl))
theorem dX12_ahead_259 : decode cX12_ahead 259 = .ok (.iload_n 1, 1) := of_decide_eq_true (List.all_eq_true.mp dsX12_ahead_2_ok (259, (.iload_n 1, 1)) (List.mem_of_getElem? (i := 22) rfl))
theorem dX12_ahead_260 : decode cX12_ahead 260 = .ok (.putfield 48, 3) := of_decide_eq_true (List.all_eq_true.mp dsX12_ahead_2_ok (260, (.putfield 48, 3)) (List.mem_of_getElem? (i := 23) rfl))
theorem dX12_ahead_263 : decode cX12_ahead 263 = .ok (.iload 5, 2) := of_decide_eq_true (List.all_eq_true.mp dsX12_ahead_2_ok (263, (.iload 5, 2)) (List.mem_of_getElem? (i := 24) rfl))
theorem dX12_ahead_265 : decode cX12_ahead 265 = .ok (.iload 4, 2) := of_decide_eq_true (List.all_eq_true.mp dsX12_ahead_2_ok (265, (.iload 4, 2)) (List.mem_of_getElem? (i := 25) rfl))
theorem dX12_ahead_267 : decode cX12_ahead 267 = .ok (.if_icmp .ge 26, 3) := of_decide_eq_true (List.all_eq_true.mp dsX12_ahead_2_ok (267, (.if_icmp .ge 26, 3)) (List.mem_of_getElem? (i := 26) rfl))
theorem dX12_ahead_270 : decode cX12_ahead 270 = .ok (.iload_n 2, 1) := of_decide_eq_true (List.all_eq_true.mp dsX12_ahead_2_ok (270, (.iload_n 2, 1)) (List.mem_of_getElem? (i := 27) rfl))
theorem dX12_ahead_271 : decode cX12_ahead 271 = .ok (.ifCond .eq 22, 3) := of_decide_eq_true (List.all_eq_true.mp dsX12_ahead_2_ok (271, (.ifCond .eq 22, 3)) (List.mem_of_getElem? (i := 28) rfl))
theorem dX12_ahead_274 : decode cX12_ahead 274 = .ok (.aload_n 0, 1) := of_decide_eq_true (List.all_eq_true.mp dsX12_ahead_2_ok (274, (.aload_n 0, 1)) (List.mem_of_getElem? (i := 29) rfl))
theorem dX12_ahead_275 : decode cX12_ahead 275 = .ok (.aload_n 0, 1) := of_decide_eq_true (List.all_eq_true.mp dsX12_ahead_2_ok (275, (.aload_n 0, 1)) (List.mem_of_getElem? (i := 30) rfl))
theorem dX12_ahead_276 : decode cX12_ahead 276 = .ok (.getfield 32, 3) := of_decide_eq_true (List.all_eq_true.mp dsX12_ahead_2_ok (276, (.getfield 32, 3)) (List.mem_of_getElem? (i := 31) rfl))
theorem dX12_ahead_279 : decode cX12_ahead 279 = .ok (.bipush 8, 2) := of_decide_eq_true (List.all_eq_true.mp dsX12_ahead_2_ok (279, (.bipush 8, 2)) (List.mem_of_getElem? (i := 32) rfl))
theorem dX12_ahead_281 : decode cX12_ahead 281 = .ok (.lshl, 1) := of_decide_eq_true (List.all_eq_true.mp dsX12_ahead_2_ok (281, (.lshl, 1)) (List.mem_of_getElem? (i := 33) rfl))
theorem dX12_ahead_282 : decode cX12_ahead 282 = .ok (.aload_n 0, 1) := of_decide_eq_true (List.all_eq_true.mp dsX12_ahead_2_ok (282, (.aload_n 0, 1)) (List.mem_of_getElem? (i := 34) rfl))
theorem dX12_ahead_283 : decode cX12_ahead 283 = .ok (.getfield 7, 3) := of_decide_eq_true (List.all_eq_true.mp dsX12_ahead_2_ok (283, (.getfield 7, 3)) (List.mem_of_getElem? (i := 35) rfl))
theorem dX12_ahead_286 : decode cX12_ahead 286 = .ok (.iload_n 1, 1) := of_decide_eq_true (List.all_eq_true.mp dsX12_ahead_2_ok (286, (.iload_n 1, 1)) (List.mem_of_getElem? (i := 36) rfl))
theorem dX12_ahead_287 : decode cX12_ahead 287 = .ok (.iaload, 1) := of_decide_eq_true (List.all_eq_true.mp dsX12_ahead_2_ok (287, (.iaload, 1)) (List.mem_of_getElem? (i := 37) rfl))
theorem dX12_ahead_288 : decode cX12_ahead 288 = .ok (.i2l, 1) := of_decide_eq_true (List.all_eq_true.mp dsX12_ahead_2_ok (288, (.i2l, 1)) (List.mem_of_getElem? (i := 38) rfl))
theorem dX12_ahead_289 : decode cX12_ahead 289 = .ok (.lor, 1) := of_decide_eq_true (List.all_eq_true.mp dsX12_ahead_2_ok (289, (.lor, 1)) (List.mem_of_getElem? (i := 39) rfl))
theorem dX12_ahead_290 : decode cX12_ahead 290 = .ok (.putfield 32, 3) := of_decide_eq_true (List.all_eq_true.mp dsX12_ahead_2_ok (290, (.putfield 32, 3)) (List.mem_of_getElem? (i := 40) rfl))
theorem dX12_ahead_293 : decode cX12_ahead 293 = .ok (.iload 5, 2) := of_decide_eq_true (List.all_eq_true.mp dsX12_ahead_2_ok (293, (.iload 5, 2)) (List.mem_of_getElem? (i := 41) rfl))
theorem dX12_ahead_295 : decode cX12_ahead 295 = .ok (.iload 4, 2) := of_decide_eq_true (List.all_eq_true.mp dsX12_ahead_2_ok (295, (.iload 4, 2)) (List.mem_of_getElem? (i := 42) rfl))
theorem dX12_ahead_297 : decode cX12_ahead 297 = .ok (.if_icmp .ge 28, 3) := of_decide_eq_true (List.all_eq_true.mp dsX12_ahead_2_ok (297, (.if_icmp .ge 28, 3)) (List.mem_of_getElem? (i := 43) rfl))
theorem dX12_ahead_300 : decode cX12_ahead 300 = .ok (.iload_n 3, 1) := of_decide_eq_true (List.all_eq_true.mp dsX12_ahead_2_ok (300, (.iload_n 3, 1)) (List.mem_of_getElem? (i := 44) rfl))
theorem dX12_ahead_301 : decode cX12_ahead 301 = .ok (.ifCond .eq 24, 3) := of_decide_eq_true (List.all_eq_true.mp dsX12_ahead_2_ok (301, (.ifCond .eq 24, 3)) (List.mem_of_getElem? (i := 45) rfl))
theorem dX12_ahead_304 : decode cX12_ahead 304 = .ok (.aload_n 0, 1) := of_decide_eq_true (List.all_eq_true.mp dsX12_ahead_2_ok (304, (.aload_n 0, 1)) (List.mem_of_getElem? (i := 46) rfl))
theorem dX12_ahead_305 : decode cX12_ahead 305 = .ok (.bipush 10, 2) := of_decide_eq_true (List.all_eq_true.mp dsX12_ahead_2_ok (305, (.bipush 10, 2)) (List.mem_of_getElem? (i := 47) rfl))
theorem dX12_ahead_307 : decode cX12_ahead 307 = .ok (.aload_n 0, 1) := of_decide_eq_true (List.all_eq_true.mp dsX12_ahead_2_ok (307, (.aload_n 0, 1)) (List.mem_of_getElem? (i := 48) rfl))
theorem dX12_ahead_308 : decode cX12_ahead 308 = .ok (.getfield 29, 3) := of_decide_eq_true (List.all_eq_true.mp dsX12_ahead_2_ok (308, (.getfield 29, 3)) (List.mem_of_getElem? (i := 49) rfl))
theorem dX12_ahead_311 : decode cX12_ahead 311 = .ok (.imul, 1) := of_decide_eq_true (List.all_eq_true.mp dsX12_ahead_2_ok (311, (.imul, 1)) (List.mem_of_getElem? (i := 50) rfl))
theorem dX12_ahead_312 : decode cX12_ahead 312 = .ok (.aload_n 0, 1) := of_decide_eq_true (List.all_eq_true.mp dsX12_ahead_2_ok (312, (.aload_n 0, 1)) (List.mem_of_getElem? (i := 51) rfl))
theorem dX12_ahead_313 : decode cX12_ahead 313 = .ok (.getfield 7, 3) := of_decide_eq_true (List.all_eq_true.mp dsX12_ahead_2_ok (313, (.getfield 7, 3)) (List.mem_of_getElem? (i := 52) rfl))
theorem dX12_ahead_316 : decode cX12_ahead 316 = .ok (.iload_n 1, 1) := of_decide_eq_true (List.all_eq_true.mp dsX12_ahead_2_ok (316, (.iload_n 1, 1)) (List.mem_of_getElem? (i := 53) rfl))
theorem dX12_ahead_317 : decode cX12_ahead 317 = .ok (.iaload, 1) := of_decide_eq_true (List.all_eq_true.mp dsX12_ahead_2_ok (317, (.iaload, 1)) (List.mem_of_getElem? (i := 54) rfl))
theorem dX12_ahead_318 : decode cX12_ahead 318 = .ok (.iadd, 1) := of_decide_eq_true (List.all_eq_true.mp dsX12_ahead_2_ok (318, (.iadd, 1)) (List.mem_of_getElem? (i := 55) rfl))
theorem dX12_ahead_319 : decode cX12_ahead 319 = .ok (.bipush 48, 2) := of_decide_eq_true (List.all_eq_true.mp dsX12_ahead_2_ok (319, (.bipush 48, 2)) (List.mem_of_getElem? (i := 56) rfl))
theorem dX12_ahead_321 : decode cX12_ahead 321 = .ok (.isub, 1) := of_decide_eq_true (List.all_eq_true.mp dsX12_ahead_2_ok (321, (.isub, 1)) (List.mem_of_getElem? (i := 57) rfl))
theorem dX12_ahead_322 : decode cX12_ahead 322 = .ok (.putfield 29, 3) := of_decide_eq_true (List.all_eq_true.mp dsX12_ahead_2_ok (322, (.putfield 29, 3)) (List.mem_of_getElem? (i := 58) rfl))
theorem dX12_ahead_325 : decode cX12_ahead 325 = .ok (.iinc 5 1, 3) := of_decide_eq_true (List.all_eq_true.mp dsX12_ahead_2_ok (325, (.iinc 5 1, 3)) (List.mem_of_getElem? (i := 59) rfl))
def dsX12_ahead_3 : List (Nat × Instr × Nat) := [(328, (.iinc 1 1, 3)), (331, (.goto (-127), 3)), (334, (.aload_n 0, 1)), (335, (.iload_n 1, 1)), (336, (.putfield 26, 3)), (339, (.return_, 1))]
theorem dsX12_ahead_3_ok : (dsX12_ahead_3.all fun q => decide (decode cX12_ahead q.1 = .ok q.2)) = true := by decide +kernel
theorem dX12_ahead_328 : decode cX12_ahead 328 = .ok (.iinc 1 1, 3) := of_decide_eq_true (List.all_eq_true.mp dsX12_ahead_3_ok (328, (.iinc 1 1, 3)) (List.mem_of_getElem? (i := 0) rfl))
theorem dX12_ahead_331 : decode cX12_ahead 331 = .ok (.goto (-127), 3) := of_decide_eq_true (List.all_eq_true.mp dsX12_ahead_3_ok (331, (.goto (-127), 3)) (List.mem_of_getElem? (i := 1) rfl))
theorem dX12_ahead_334 : decode cX12_ahead 334 = .ok (.aload_n 0, 1) := of_decide_eq_true (List.all_eq_true.mp dsX12_ahead_3_ok (334, (.aload_n 0, 1)) (List.mem_of_getElem? (i := 2) rfl))
theorem dX12_ahead_335 : decode cX12_ahead 335 = .ok (.iload_n 1, 1) := of_decide_eq_true (List.all_eq_true.mp dsX12_ahead_3_ok (335, (.iload_n 1, 1)) (List.mem_of_getElem? (i := 3) rfl))
theorem dX12_ahead_336 : decode cX12_ahead 336 = .ok (.putfield 26, 3) := of_decide_eq_true (List.all_eq_true.mp dsX12_ahead_3_ok (336, (.putfield 26, 3)) (List.mem_of_getElem? (i := 4) rfl))
theorem dX12_ahead_339 : decode cX12_ahead 339 = .ok (.return_, 1) := of_decide_eq_true (List.all_eq_true.mp dsX12_ahead_3_ok (339, (.return_, 1)) (List.mem_of_getElem? (i := 5) rfl))
def fX12_ahead_b325 (N : Nat) (mm_tapeF : Nat → Int32)  (k204 : ((Nat → Int32) × (Nat → Int64) × Int32 × Int32 × Int32 × Int32 × Int32) → Option ((Nat → Int32) × (Nat → Int64))) : ((Nat → Int32) × (Nat → Int64) × Int32 × Int32 × Int32 × Int32 × Int32) → Option ((Nat → Int32) × (Nat → Int64)) :=
  fun (mmI_325, mmJ_325, x1_325, x2_325, x3_325, x4_325, x5_325) => k204 (mmI_325, mmJ_325, x1_325 + 1, x2_325, x3_325, x4_325, x5_325 + 1)
def fX12_ahead_b293 (N : Nat) (mm_tapeF : Nat → Int32)  (k204 : ((Nat → Int32) × (Nat → Int64) × Int32 × Int32 × Int32 × Int32 × Int32) → Option ((Nat → Int32) × (Nat → Int64))) : ((Nat → Int32) × (Nat → Int64) × Int32 × Int32 × Int32 × Int32 × Int32) → Option ((Nat → Int32) × (Nat → Int64)) :=
  fun (mmI_293, mmJ_293, x1_293, x2_293, x3_293, x4_293, x5_293) => (if x4_293 ≤ x5_293 then fX12_ahead_b325 N mm_tapeF k204 (mmI_293, mmJ_293, x1_293, x2_293, x3_293, x4_293, x5_293) else (if x3_293 = 0 then fX12_ahead_b325 N mm_tapeF k204 (mmI_293, mmJ_293, x1_293, x2_293, x3_293, x4_293, x5_293) else (xq_bd (xq_ald 1800 mm_tapeF x1_293) fun v_1 => fX12_ahead_b325 N mm_tapeF k204 ((va_up mmI_293 6 (((10 * (mmI_293 6)) + v_1) - 48)), mmJ_293, x1_293, x2_293, x3_293, x4_293, x5_293))))
def fX12_ahead_b263 (N : Nat) (mm_tapeF : Nat → Int32)  (k204 : ((Nat → Int32) × (Nat → Int64) × Int32 × Int32 × Int32 × Int32 × Int32) → Option ((Nat → Int32) × (Nat → Int64))) : ((Nat → Int32) × (Nat → Int64) × Int32 × Int32 × Int32 × Int32 × Int32) → Option ((Nat → Int32) × (Nat → Int64)) :=
  fun (mmI_263, mmJ_263, x1_263, x2_263, x3_263, x4_263, x5_263) => (if x4_263 ≤ x5_263 then fX12_ahead_b293 N mm_tapeF k204 (mmI_263, mmJ_263, x1_263, x2_263, x3_263, x4_263, x5_263) else (if x2_263 = 0 then fX12_ahead_b293 N mm_tapeF k204 (mmI_263, mmJ_263, x1_263, x2_263, x3_263, x4_263, x5_263) else (xq_bd (xq_ald 1800 mm_tapeF x1_263) fun v_2 => fX12_ahead_b293 N mm_tapeF k204 (mmI_263, (va_up mmJ_263 7 (((mmJ_263 7) <<< ((8 : Int32).toInt64 &&& 63)) ||| v_2.toInt64)), x1_263, x2_263, x3_263, x4_263, x5_263))))
def fX12_ahead_b243 (N : Nat) (mm_tapeF : Nat → Int32)  (k204 : ((Nat → Int32) × (Nat → Int64) × Int32 × Int32 × Int32 × Int32 × Int32) → Option ((Nat → Int32) × (Nat → Int64))) : ((Nat → Int32) × (Nat → Int64) × Int32 × Int32 × Int32 × Int32 × Int32) → Option ((Nat → Int32) × (Nat → Int64)) :=
  fun (mmI_243, mmJ_243, x1_243, x2_243, x3_243, x4_243, x5_243) => (if x5_243 = x4_243 then (if (mmI_243 12) = ((-1)) then fX12_ahead_b263 N mm_tapeF k204 ((va_up mmI_243 12 x1_243), mmJ_243, x1_243, x2_243, x3_243, x4_243, x5_243) else fX12_ahead_b263 N mm_tapeF k204 (mmI_243, mmJ_243, x1_243, x2_243, x3_243, x4_243, x5_243)) else fX12_ahead_b263 N mm_tapeF k204 (mmI_243, mmJ_243, x1_243, x2_243, x3_243, x4_243, x5_243))
def fX12_ahead_l204 (N : Nat) (mm_tapeF : Nat → Int32)  (k204 : ((Nat → Int32) × (Nat → Int64) × Int32 × Int32 × Int32 × Int32 × Int32) → Option ((Nat → Int32) × (Nat → Int64))) : ((Nat → Int32) × (Nat → Int64) × Int32 × Int32 × Int32 × Int32 × Int32) → Option ((Nat → Int32) × (Nat → Int64)) :=
  fun (mmI_204, mmJ_204, x1_204, x2_204, x3_204, x4_204, x5_204) => (if (mmI_204 2) ≤ x1_204 then some (((va_up mmI_204 5 x1_204), mmJ_204)) else (if x2_204 = 0 then (xq_bd (xq_ald 1800 mm_tapeF x1_204) fun v_3 => (xq_bd (fX12_isDigit N v_3) fun r_4 => (if r_4 = 0 then some (((va_up mmI_204 5 x1_204), mmJ_204)) else fX12_ahead_b243 N mm_tapeF k204 (mmI_204, mmJ_204, x1_204, x2_204, x3_204, x4_204, x5_204)))) else (xq_bd (xq_ald 1800 mm_tapeF x1_204) fun v_6 => (xq_bd (fX12_isLetter N v_6) fun r_7 => (if r_7 = 0 then some (((va_up mmI_204 5 x1_204), mmJ_204)) else fX12_ahead_b243 N mm_tapeF k204 (mmI_204, mmJ_204, x1_204, x2_204, x3_204, x4_204, x5_204))))))
def fX12_ahead_b199 (N : Nat) (mm_tapeF : Nat → Int32)   : ((Nat → Int32) × (Nat → Int64) × Int32 × Int32 × Int32 × Int32) → Option ((Nat → Int32) × (Nat → Int64)) :=
  fun (mmI_199, mmJ_199, x1_199, x2_199, x3_199, y0_199) => xq_loop (fX12_ahead_l204 N mm_tapeF) N (mmI_199, mmJ_199, x1_199, x2_199, x3_199, y0_199, 0)
def fX12_ahead_b186 (N : Nat) (mm_tapeF : Nat → Int32)   : ((Nat → Int32) × (Nat → Int64) × Int32 × Int32 × Int32 × Int32) → Option ((Nat → Int32) × (Nat → Int64)) :=
  fun (mmI_186, mmJ_186, x1_186, x2_186, x3_186, y1_186) => (if x2_186 = 0 then fX12_ahead_b199 N mm_tapeF ((va_up mmI_186 3 y1_186), mmJ_186, x1_186, x2_186, x3_186, 4) else fX12_ahead_b199 N mm_tapeF ((va_up mmI_186 3 y1_186), mmJ_186, x1_186, x2_186, x3_186, 6))
def fX12_ahead_b176 (N : Nat) (mm_tapeF : Nat → Int32)   : ((Nat → Int32) × (Nat → Int64) × Int32 × Int32 × Int32) → Option ((Nat → Int32) × (Nat → Int64)) :=
  fun (mmI_176, mmJ_176, x1_176, x2_176, x3_176) => (if x2_176 = 0 then fX12_ahead_b186 N mm_tapeF (mmI_176, mmJ_176, x1_176, x2_176, x3_176, 2) else fX12_ahead_b186 N mm_tapeF (mmI_176, mmJ_176, x1_176, x2_176, x3_176, 1))
def fX12_ahead_b135 (N : Nat) (mm_tapeF : Nat → Int32)   : ((Nat → Int32) × (Nat → Int64) × Int32 × Int32 × Int32) → Option ((Nat → Int32) × (Nat → Int64)) :=
  fun (mmI_135, mmJ_135, x1_135, x2_135, x3_135) => (if x2_135 = 0 then (if x3_135 = 0 then (xq_bd (xq_ald 1800 mm_tapeF x1_135) fun v_9 => some (((va_up (va_up (va_up mmI_135 6 v_9) 3 3) 5 (x1_135 + 1)), (va_up mmJ_135 7 0)))) else fX12_ahead_b176 N mm_tapeF ((va_up (va_up (va_up mmI_135 6 0) 3 3) 5 (x1_135 + 1)), (va_up mmJ_135 7 0), x1_135, x2_135, x3_135)) else fX12_ahead_b176 N mm_tapeF ((va_up (va_up (va_up mmI_135 6 0) 3 3) 5 (x1_135 + 1)), (va_up mmJ_135 7 0), x1_135, x2_135, x3_135))
def fX12_ahead_b130 (N : Nat) (mm_tapeF : Nat → Int32)   : ((Nat → Int32) × (Nat → Int64) × Int32 × Int32 × Int32) → Option ((Nat → Int32) × (Nat → Int64)) :=
  fun (mmI_130, mmJ_130, x1_130, x2_130, x3_130) => fX12_ahead_b135 N mm_tapeF ((va_up mmI_130 12 x1_130), mmJ_130, x1_130, x2_130, x3_130)
def fX12_ahead_b98 (N : Nat) (mm_tapeF : Nat → Int32)   : ((Nat → Int32) × (Nat → Int64) × Int32 × Int32 × Int32) → Option ((Nat → Int32) × (Nat → Int64)) :=
  fun (mmI_98, mmJ_98, x1_98, x2_98, x3_98) => (if x1_98 ≤ 0 then fX12_ahead_b135 N mm_tapeF (mmI_98, mmJ_98, x1_98, x2_98, x3_98) else (xq_bd (xq_ald 1800 mm_tapeF (x1_98 - 1)) fun v_10 => (xq_bd (fX12_isLetter N v_10) fun r_11 => (if r_11 = 0 then (xq_bd (xq_ald 1800 mm_tapeF (x1_98 - 1)) fun v_13 => (xq_bd (fX12_isDigit N v_13) fun r_14 => (if r_14 = 0 then fX12_ahead_b135 N mm_tapeF (mmI_98, mmJ_98, x1_98, x2_98, x3_98) else fX12_ahead_b130 N mm_tapeF (mmI_98, mmJ_98, x1_98, x2_98, x3_98)))) else fX12_ahead_b130 N mm_tapeF (mmI_98, mmJ_98, x1_98, x2_98, x3_98)))))
def fX12_ahead_b41 (N : Nat) (mm_tapeF : Nat → Int32)   : ((Nat → Int32) × (Nat → Int64) × Int32) → Option ((Nat → Int32) × (Nat → Int64)) :=
  fun (mmI_41, mmJ_41, x1_41) => (if x1_41 < (mmI_41 2) then (xq_bd (xq_ald 1800 mm_tapeF x1_41) fun v_16 => (xq_bd (fX12_isLetter N v_16) fun r_17 => (xq_bd (xq_ald 1800 mm_tapeF x1_41) fun v_19 => (xq_bd (fX12_isDigit N v_19) fun r_20 => (if r_17 = 0 then (if r_20 = 0 then fX12_ahead_b135 N mm_tapeF ((va_up (va_up (va_up (va_up mmI_41 4 x1_41) 5 x1_41) 3 0) 12 ((-1))), mmJ_41, x1_41, r_17, r_20) else fX12_ahead_b98 N mm_tapeF ((va_up (va_up (va_up (va_up mmI_41 4 x1_41) 5 x1_41) 3 0) 12 ((-1))), mmJ_41, x1_41, r_17, r_20)) else fX12_ahead_b98 N mm_tapeF ((va_up (va_up (va_up (va_up mmI_41 4 x1_41) 5 x1_41) 3 0) 12 ((-1))), mmJ_41, x1_41, r_17, r_20)))))) else some (((va_up (va_up (va_up (va_up mmI_41 4 x1_41) 5 x1_41) 3 0) 12 ((-1))), mmJ_41)))
def fX12_ahead_b35 (N : Nat) (mm_tapeF : Nat → Int32)  (k5 : ((Nat → Int32) × (Nat → Int64) × Int32) → Option ((Nat → Int32) × (Nat → Int64))) : ((Nat → Int32) × (Nat → Int64) × Int32) → Option ((Nat → Int32) × (Nat → Int64)) :=
  fun (mmI_35, mmJ_35, x1_35) => k5 (mmI_35, mmJ_35, x1_35 + 1)
def fX12_ahead_l5 (N : Nat) (mm_tapeF : Nat → Int32)  (k5 : ((Nat → Int32) × (Nat → Int64) × Int32) → Option ((Nat → Int32) × (Nat → Int64))) : ((Nat → Int32) × (Nat → Int64) × Int32) → Option ((Nat → Int32) × (Nat → Int64)) :=
  fun (mmI_5, mmJ_5, x1_5) => (if (mmI_5 2) ≤ x1_5 then fX12_ahead_b41 N mm_tapeF (mmI_5, mmJ_5, x1_5) else (xq_bd (xq_ald 1800 mm_tapeF x1_5) fun v_22 => (if v_22 = 32 then fX12_ahead_b35 N mm_tapeF k5 (mmI_5, mmJ_5, x1_5) else (xq_bd (xq_ald 1800 mm_tapeF x1_5) fun v_23 => (if v_23 = 10 then fX12_ahead_b35 N mm_tapeF k5 (mmI_5, mmJ_5, x1_5) else fX12_ahead_b41 N mm_tapeF (mmI_5, mmJ_5, x1_5))))))
def fX12_ahead (N : Nat) (mmI : Nat → Int32) (mmJ : Nat → Int64) (mm_tapeF : Nat → Int32)   : Option ((Nat → Int32) × (Nat → Int64)) :=
  xq_loop (fX12_ahead_l5 N mm_tapeF) N (mmI, mmJ, mmI 5)
set_option maxHeartbeats 4000000 in
set_option maxRecDepth 100000 in
theorem kX12_ahead (l : Launch) (dC : Nat → ClassId) (dI : Nat → Nat → Nat) (cI cB cJ cZ cM : ClassId) (z : Nat) (ad : Nat → Nat) (N : Nat) (a_p0 : Nat) (mmI : Nat → Int32) (mmJ : Nat → Int64) (mmR : Nat → Nat) (mm_tapeF : Nat → Int32) {r0 : Nat → Int32} {r1 : Nat → Int64} (hf : fX12_ahead N mmI mmJ mm_tapeF = some (r0, r1)) : xq_Ct l yX12_ahead wsX12_ahead { frames := 1, cells := 0, slots := 0, locals := 20 } (dC, dI) vwCl (xq_tys cI cB cJ cZ cM) z ad [.ref a_p0] [(a_p0, .inr (12, oX12 mmI mmJ mmR)), ((mmR 0), .inl (cI, 1800, .inl mm_tapeF))] [(a_p0, .inr (12, oX12 r0 r1 mmR)), ((mmR 0), .inl (cI, 1800, .inl mm_tapeF))] none := by
  intro sz
  refine Met.ofW (cc := cX12_ahead) (maxL := 6) (ret := none) (by decide) rfl ?_
  intro p e s m args below meth c s₁ B hml hv
  obtain ⟨rfl, hsz, hP, hK, hD0, hE, hz⟩ := hv
  have hx := B.exec
  have hb := B.bytes
  have hr := B.returns
  have hts := atoms_spec (ws := wsX12_ahead) B.pre
  have hown : s.vm.findClass RX12 = some m.cls := findClass_of_methodNamed B.named
  have hlocks := B.notSynchronized
  subst hsz
  have hD := hD0.self (sz := s.heap.size)
  have hN := xq_Env.of hE hz hD0
  generalize hAe : va_A [(a_p0, .inr (12, oX12 mmI mmJ mmR)), ((mmR 0), .inl (cI, 1800, .inl mm_tapeF))] s.heap.size = A at hD hN ⊢
  have hA : ∀ q : Nat, s.heap.size ≤ q → A q := fun q h => by rw [← hAe]; exact Or.inr h
  clear hAe hD0
  have hS : va_S A s.heap s.heap [] := va_S.rf
  have hl := lv_entry ([.ref a_p0]) (n := 6) (Nat.le_of_ble_eq_true rfl)
  rw [lg_entry_eq]
  generalize (lg_sl ([.ref a_p0]) ++ List.replicate (6 - (lg_sl ([.ref a_p0])).length) Slot.unset).toArray = ls at hl ⊢
  have hl : lv_has ls 6 [(0, .ref a_p0)] := hl
  have hw0 := hts (.fieldLink RX12 26 "DistantVoiceModel" "signEnd" "I") (by decide +kernel)
  have hinX12 : ∀ w ∈ wsX120, w ∈ wsX12_ahead := fun w h => List.mem_cons_of_mem _ (List.mem_append_right _ h)
  have hw2 := hts (.fieldLink RX12 17 "DistantVoiceModel" "size" "I") (by decide +kernel)
  have hw3 := hts (.fieldLink RX12 7 "DistantVoiceModel" "tape" "[I") (by decide +kernel)
  have hw4 := hts (.fieldLink RX12 23 "DistantVoiceModel" "signAt" "I") (by decide +kernel)
  have hw5 := hts (.fieldLink RX12 20 "DistantVoiceModel" "sign" "I") (by decide +kernel)
  have hw6 := hts (.fieldLink RX12 48 "DistantVoiceModel" "lexAt" "I") (by decide +kernel)
  have hw7 := hts (.fieldLink RX12 29 "DistantVoiceModel" "value" "I") (by decide +kernel)
  have hw8 := hts (.fieldLink RX12 32 "DistantVoiceModel" "word" "J") (by decide +kernel)
  have l204 : ∀ n204 : Nat, ∀ (mmI_204 : Nat → Int32) (mmJ_204 : Nat → Int64) (x1_204 : Int32) (x2_204 : Int32) (x3_204 : Int32) (x4_204 : Int32) (x5_204 : Int32) (ls : Array Slot) (H : Heap) (locs : List Loc), xq_loop (fX12_ahead_l204 N mm_tapeF) n204 (mmI_204, mmJ_204, x1_204, x2_204, x3_204, x4_204, x5_204) = some (r0, r1) → va_P (dC, dI) vwCl [(a_p0, .inr (12, oX12 mmI_204 mmJ_204 mmR)), ((mmR 0), .inl (cI, 1800, .inl mm_tapeF))] H → va_D A [(a_p0, .inr (12, oX12 mmI_204 mmJ_204 mmR)), ((mmR 0), .inl (cI, 1800, .inl mm_tapeF))] → va_S A s.heap H locs → lv_has ls 6 [(0, .ref a_p0), (1, .int x1_204), (2, .int x2_204), (3, .int x3_204), (4, .int x4_204), (5, .int x5_204)] → W p l e (headSpec wsX12_ahead { frames := 1, cells := 0, slots := 0, locals := 20 }).room s m [.ref a_p0].toArray below meth c H locs 0 0 (MQ below (xq_Q (dC, dI) vwCl (xq_tys cI cB cJ cZ cM) A [(a_p0, .inr (12, oX12 r0 r1 mmR)), ((mmR 0), .inl (cI, 1800, .inl mm_tapeF))] none) [.ref a_p0].toArray s 0 0 A) (F0 m 204 ls []) := by
    intro n204
    induction n204 with
    | zero => intro mmI_204 mmJ_204 x1_204 x2_204 x3_204 x4_204 x5_204 ls H locs hf; cases (show none = some (r0, r1) from hf)
    | succ n204 ih204 =>
      have b325 : ∀ (mmI_325 : Nat → Int32) (mmJ_325 : Nat → Int64) (x1_325 : Int32) (x2_325 : Int32) (x3_325 : Int32) (x4_325 : Int32) (x5_325 : Int32) (ls : Array Slot) (H : Heap) (locs : List Loc), fX12_ahead_b325 N mm_tapeF (xq_loop (fX12_ahead_l204 N mm_tapeF) n204) (mmI_325, mmJ_325, x1_325, x2_325, x3_325, x4_325, x5_325) = some (r0, r1) → va_P (dC, dI) vwCl [(a_p0, .inr (12, oX12 mmI_325 mmJ_325 mmR)), ((mmR 0), .inl (cI, 1800, .inl mm_tapeF))] H → va_D A [(a_p0, .inr (12, oX12 mmI_325 mmJ_325 mmR)), ((mmR 0), .inl (cI, 1800, .inl mm_tapeF))] → va_S A s.heap H locs → lv_has ls 6 [(0, .ref a_p0), (1, .int x1_325), (2, .int x2_325), (3, .int x3_325), (4, .int x4_325), (5, .int x5_325)] → W p l e (headSpec wsX12_ahead { frames := 1, cells := 0, slots := 0, locals := 20 }).room s m [.ref a_p0].toArray below meth c H locs 0 0 (MQ below (xq_Q (dC, dI) vwCl (xq_tys cI cB cJ cZ cM) A [(a_p0, .inr (12, oX12 r0 r1 mmR)), ((mmR 0), .inl (cI, 1800, .inl mm_tapeF))] none) [.ref a_p0].toArray s 0 0 A) (F0 m 325 ls []) := by
        intro mmI_325 mmJ_325 x1_325 x2_325 x3_325 x4_325 x5_325 ls H locs hf hP hD hS hl
        unfold fX12_ahead_b325 at hf
        refine lv_iinc (v := x5_325 + 1) (lv' := [(5, .int (x5_325 + 1)), (0, .ref a_p0), (1, .int x1_325), (2, .int x2_325), (3, .int x3_325), (4, .int x4_325)]) hx hb dX12_ahead_325 hl (k := 5) rfl (congrArg (fun q9 => x5_325 + q9) (by decide : Int32.ofInt 1 = 1)) (by decide) rfl (fun ls hl => ?_)
        refine lv_iinc (v := x1_325 + 1) (lv' := [(1, .int (x1_325 + 1)), (5, .int (x5_325 + 1)), (0, .ref a_p0), (2, .int x2_325), (3, .int x3_325), (4, .int x4_325)]) hx hb dX12_ahead_328 hl (k := 2) rfl (congrArg (fun q9 => x1_325 + q9) (by decide : Int32.ofInt 1 = 1)) (by decide) rfl (fun ls hl => ?_)
        refine lv_goto (tgt := 204) hx hb dX12_ahead_331 (by decide) ?_
        exact ih204 mmI_325 mmJ_325 (x1_325 + 1) x2_325 x3_325 x4_325 (x5_325 + 1) _ _ _ hf hP hD hS (lv_sub hl [2, 0, 3, 4, 5, 1] rfl)
      have b293 : ∀ (mmI_293 : Nat → Int32) (mmJ_293 : Nat → Int64) (x1_293 : Int32) (x2_293 : Int32) (x3_293 : Int32) (x4_293 : Int32) (x5_293 : Int32) (ls : Array Slot) (H : Heap) (locs : List Loc), fX12_ahead_b293 N mm_tapeF (xq_loop (fX12_ahead_l204 N mm_tapeF) n204) (mmI_293, mmJ_293, x1_293, x2_293, x3_293, x4_293, x5_293) = some (r0, r1) → va_P (dC, dI) vwCl [(a_p0, .inr (12, oX12 mmI_293 mmJ_293 mmR)), ((mmR 0), .inl (cI, 1800, .inl mm_tapeF))] H → va_D A [(a_p0, .inr (12, oX12 mmI_293 mmJ_293 mmR)), ((mmR 0), .inl (cI, 1800, .inl mm_tapeF))] → va_S A s.heap H locs → lv_has ls 6 [(0, .ref a_p0), (1, .int x1_293), (2, .int x2_293), (3, .int x3_293), (4, .int x4_293), (5, .int x5_293)] → W p l e (headSpec wsX12_ahead { frames := 1, cells := 0, slots := 0, locals := 20 }).room s m [.ref a_p0].toArray below meth c H locs 0 0 (MQ below (xq_Q (dC, dI) vwCl (xq_tys cI cB cJ cZ cM) A [(a_p0, .inr (12, oX12 r0 r1 mmR)), ((mmR 0), .inl (cI, 1800, .inl mm_tapeF))] none) [.ref a_p0].toArray s 0 0 A) (F0 m 293 ls []) := by
        intro mmI_293 mmJ_293 x1_293 x2_293 x3_293 x4_293 x5_293 ls H locs hf hP hD hS hl
        unfold fX12_ahead_b293 at hf
        refine lv_iload hx hb dX12_ahead_293 (lv_at hl 5 rfl) ?_
        refine lv_iload hx hb dX12_ahead_295 (lv_at hl 4 rfl) ?_
        refine lv_icmp_ge (tgt := 325) hx hb dX12_ahead_297 (by decide) (fun c_ => ?_) (fun c_ => ?_)
        · have hf := xq_pos hf c_
          exact b325 mmI_293 mmJ_293 x1_293 x2_293 x3_293 x4_293 x5_293 _ _ _ hf hP hD hS (lv_sub hl [0, 1, 2, 3, 4, 5] rfl)
        · have hf := xq_neg hf c_
          refine lv_iload_n hx hb dX12_ahead_300 rfl (lv_at hl 3 rfl) ?_
          refine lv_if_eq (tgt := 325) hx hb dX12_ahead_301 (by decide) (fun c_ => ?_) (fun c_ => ?_)
          · have hf := xq_pos hf c_
            exact b325 mmI_293 mmJ_293 x1_293 x2_293 x3_293 x4_293 x5_293 _ _ _ hf hP hD hS (lv_sub hl [0, 1, 2, 3, 4, 5] rfl)
          · have hf := xq_neg hf c_
            refine lv_aload_n hx hb dX12_ahead_304 rfl (lv_at hl 0 rfl) ?_
            refine lv_bipush (v := 10) hx hb dX12_ahead_305 (by decide) ?_
            refine lv_aload_n hx hb dX12_ahead_307 rfl (lv_at hl 0 rfl) ?_
            refine va_get (D := (dC, dI)) (ci := 12) (v := .int (mmI_293 6)) (C := RX12) (T := TX12) (N := 70) hx hb hts hinX12 hown hK hP 0 rfl rfl 6 (by decide) hw7 (fun _ h9 => h9) rfl dX12_ahead_308 ?_
            refine lv_imul hx hb dX12_ahead_311 ?_
            refine lv_aload_n hx hb dX12_ahead_312 rfl (lv_at hl 0 rfl) ?_
            refine va_get (D := (dC, dI)) (ci := 12) (v := .ref ((mmR 0))) (C := RX12) (T := TX12) (N := 70) hx hb hts hinX12 hown hK hP 0 rfl rfl 0 (by decide) hw3 (fun _ h9 => h9) rfl dX12_ahead_313 ?_
            refine lv_iload_n hx hb dX12_ahead_316 rfl (lv_at hl 1 rfl) ?_
            refine xq_iald hx hb hK hP 1 0 rfl rfl hf dX12_ahead_317 (fun v_1 hf => ?_)
            refine lv_iadd hx hb dX12_ahead_318 ?_
            refine lv_bipush (v := 48) hx hb dX12_ahead_319 (by decide) ?_
            refine lv_isub hx hb dX12_ahead_321 ?_
            refine va_put (D := (dC, dI)) (ci := 12) (v := .int (((10 * (mmI_293 6)) + v_1) - 48)) (ty := .int) (C := RX12) (T := TX12) (N := 70) hx hb hts hinX12 tyX12 tyX12_ok nmX12 hown hK hP hD hS 0 rfl rfl 6 (by decide) hw7 (fun _ h9 => h9) rfl (by decide +kernel) rfl rfl (Nat.le_of_ble_eq_true rfl) dX12_ahead_322 (fun H locs hP hD hS => ?_)
            have hP : va_P (dC, dI) vwCl [(a_p0, .inr (12, oX12 (va_up mmI_293 6 (((10 * (mmI_293 6)) + v_1) - 48)) mmJ_293 mmR)), ((mmR 0), .inl (cI, 1800, .inl mm_tapeF))] H := hP
            have hD : va_D A [(a_p0, .inr (12, oX12 (va_up mmI_293 6 (((10 * (mmI_293 6)) + v_1) - 48)) mmJ_293 mmR)), ((mmR 0), .inl (cI, 1800, .inl mm_tapeF))] := hD
            exact b325 ((va_up mmI_293 6 (((10 * (mmI_293 6)) + v_1) - 48))) mmJ_293 x1_293 x2_293 x3_293 x4_293 x5_293 _ _ _ hf hP hD hS (lv_sub hl [0, 1, 2, 3, 4, 5] rfl)
      have b263 : ∀ (mmI_263 : Nat → Int32) (mmJ_263 : Nat → Int64) (x1_263 : Int32) (x2_263 : Int32) (x3_263 : Int32) (x4_263 : Int32) (x5_263 : Int32) (ls : Array Slot) (H : Heap) (locs : List Loc), fX12_ahead_b263 N mm_tapeF (xq_loop (fX12_ahead_l204 N mm_tapeF) n204) (mmI_263, mmJ_263, x1_263, x2_263, x3_263, x4_263, x5_263) = some (r0, r1) → va_P (dC, dI) vwCl [(a_p0, .inr (12, oX12 mmI_263 mmJ_263 mmR)), ((mmR 0), .inl (cI, 1800, .inl mm_tapeF))] H → va_D A [(a_p0, .inr (12, oX12 mmI_263 mmJ_263 mmR)), ((mmR 0), .inl (cI, 1800, .inl mm_tapeF))] → va_S A s.heap H locs → lv_has ls 6 [(0, .ref a_p0), (1, .int x1_263), (2, .int x2_263), (3, .int x3_263), (4, .int x4_263), (5, .int x5_263)] → W p l e (headSpec wsX12_ahead { frames := 1, cells := 0, slots := 0, locals := 20 }).room s m [.ref a_p0].toArray below meth c H locs 0 0 (MQ below (xq_Q (dC, dI) vwCl (xq_tys cI cB cJ cZ cM) A [(a_p0, .inr (12, oX12 r0 r1 mmR)), ((mmR 0), .inl (cI, 1800, .inl mm_tapeF))] none) [.ref a_p0].toArray s 0 0 A) (F0 m 263 ls []) := by
        intro mmI_263 mmJ_263 x1_263 x2_263 x3_263 x4_263 x5_263 ls H locs hf hP hD hS hl
        unfold fX12_ahead_b263 at hf
        refine lv_iload hx hb dX12_ahead_263 (lv_at hl 5 rfl) ?_
        refine lv_iload hx hb dX12_ahead_265 (lv_at hl 4 rfl) ?_
        refine lv_icmp_ge (tgt := 293) hx hb dX12_ahead_267 (by decide) (fun c_ => ?_) (fun c_ => ?_)
        · have hf := xq_pos hf c_
          exact b293 mmI_263 mmJ_263 x1_263 x2_263 x3_263 x4_263 x5_263 _ _ _ hf hP hD hS (lv_sub hl [0, 1, 2, 3, 4, 5] rfl)
        · have hf := xq_neg hf c_
          refine lv_iload_n hx hb dX12_ahead_270 rfl (lv_at hl 2 rfl) ?_
          refine lv_if_eq (tgt := 293) hx hb dX12_ahead_271 (by decide) (fun c_ => ?_) (fun c_ => ?_)
          · have hf := xq_pos hf c_
            exact b293 mmI_263 mmJ_263 x1_263 x2_263 x3_263 x4_263 x5_263 _ _ _ hf hP hD hS (lv_sub hl [0, 1, 2, 3, 4, 5] rfl)
          · have hf := xq_neg hf c_
            refine lv_aload_n hx hb dX12_ahead_274 rfl (lv_at hl 0 rfl) ?_
            refine lv_aload_n hx hb dX12_ahead_275 rfl (lv_at hl 0 rfl) ?_
            refine va_get (D := (dC, dI)) (ci := 12) (v := .long (mmJ_263 7)) (C := RX12) (T := TX12) (N := 70) hx hb hts hinX12 hown hK hP 0 rfl rfl 7 (by decide) hw8 (fun _ h9 => h9) rfl dX12_ahead_276 ?_
            refine lv_bipush (v := 8) hx hb dX12_ahead_279 (by decide) ?_
            refine lv_lshl (v := (mmJ_263 7) <<< ((8 : Int32).toInt64 &&& 63)) hx hb dX12_ahead_281 rfl ?_
            refine lv_aload_n hx hb dX12_ahead_282 rfl (lv_at hl 0 rfl) ?_
            refine va_get (D := (dC, dI)) (ci := 12) (v := .ref ((mmR 0))) (C := RX12) (T := TX12) (N := 70) hx hb hts hinX12 hown hK hP 0 rfl rfl 0 (by decide) hw3 (fun _ h9 => h9) rfl dX12_ahead_283 ?_
            refine lv_iload_n hx hb dX12_ahead_286 rfl (lv_at hl 1 rfl) ?_
            refine xq_iald hx hb hK hP 1 0 rfl rfl hf dX12_ahead_287 (fun v_1 hf => ?_)
            refine lv_i2l (v := v_1.toInt64) hx hb dX12_ahead_288 rfl ?_
            refine lv_lor hx hb dX12_ahead_289 ?_
            refine va_put (D := (dC, dI)) (ci := 12) (v := .long (((mmJ_263 7) <<< ((8 : Int32).toInt64 &&& 63)) ||| v_1.toInt64)) (ty := .long) (C := RX12) (T := TX12) (N := 70) hx hb hts hinX12 tyX12 tyX12_ok nmX12 hown hK hP hD hS 0 rfl rfl 7 (by decide) hw8 (fun _ h9 => h9) rfl (by decide +kernel) rfl rfl (Nat.le_of_ble_eq_true rfl) dX12_ahead_290 (fun H locs hP hD hS => ?_)
            have hP : va_P (dC, dI) vwCl [(a_p0, .inr (12, oX12 mmI_263 (va_up mmJ_263 7 (((mmJ_263 7) <<< ((8 : Int32).toInt64 &&& 63)) ||| v_1.toInt64)) mmR)), ((mmR 0), .inl (cI, 1800, .inl mm_tapeF))] H := hP
            have hD : va_D A [(a_p0, .inr (12, oX12 mmI_263 (va_up mmJ_263 7 (((mmJ_263 7) <<< ((8 : Int32).toInt64 &&& 63)) ||| v_1.toInt64)) mmR)), ((mmR 0), .inl (cI, 1800, .inl mm_tapeF))] := hD
            exact b293 mmI_263 ((va_up mmJ_263 7 (((mmJ_263 7) <<< ((8 : Int32).toInt64 &&& 63)) ||| v_1.toInt64))) x1_263 x2_263 x3_263 x4_263 x5_263 _ _ _ hf hP hD hS (lv_sub hl [0, 1, 2, 3, 4, 5] rfl)
      have b243 : ∀ (mmI_243 : Nat → Int32) (mmJ_243 : Nat → Int64) (x1_243 : Int32) (x2_243 : Int32) (x3_243 : Int32) (x4_243 : Int32) (x5_243 : Int32) (ls : Array Slot) (H : Heap) (locs : List Loc), fX12_ahead_b243 N mm_tapeF (xq_loop (fX12_ahead_l204 N mm_tapeF) n204) (mmI_243, mmJ_243, x1_243, x2_243, x3_243, x4_243, x5_243) = some (r0, r1) → va_P (dC, dI) vwCl [(a_p0, .inr (12, oX12 mmI_243 mmJ_243 mmR)), ((mmR 0), .inl (cI, 1800, .inl mm_tapeF))] H → va_D A [(a_p0, .inr (12, oX12 mmI_243 mmJ_243 mmR)), ((mmR 0), .inl (cI, 1800, .inl mm_tapeF))] → va_S A s.heap H locs → lv_has ls 6 [(0, .ref a_p0), (1, .int x1_243), (2, .int x2_243), (3, .int x3_243), (4, .int x4_243), (5, .int x5_243)] → W p l e (headSpec wsX12_ahead { frames := 1, cells := 0, slots := 0, locals := 20 }).room s m [.ref a_p0].toArray below meth c H locs 0 0 (MQ below (xq_Q (dC, dI) vwCl (xq_tys cI cB cJ cZ cM) A [(a_p0, .inr (12, oX12 r0 r1 mmR)), ((mmR 0), .inl (cI, 1800, .inl mm_tapeF))] none) [.ref a_p0].toArray s 0 0 A) (F0 m 243 ls []) := by
        intro mmI_243 mmJ_243 x1_243 x2_243 x3_243 x4_243 x5_243 ls H locs hf hP hD hS hl
        unfold fX12_ahead_b243 at hf
        refine lv_iload hx hb dX12_ahead_243 (lv_at hl 5 rfl) ?_
        refine lv_iload hx hb dX12_ahead_245 (lv_at hl 4 rfl) ?_
        refine lv_icmp_ne (tgt := 263) hx hb dX12_ahead_247 (by decide) (fun c_ => ?_) (fun c_ => ?_)
        · have hf := xq_neg hf c_
          exact b263 mmI_243 mmJ_243 x1_243 x2_243 x3_243 x4_243 x5_243 _ _ _ hf hP hD hS (lv_sub hl [0, 1, 2, 3, 4, 5] rfl)
        · have hf := xq_pos hf c_
          refine lv_aload_n hx hb dX12_ahead_250 rfl (lv_at hl 0 rfl) ?_
          refine va_get (D := (dC, dI)) (ci := 12) (v := .int (mmI_243 12)) (C := RX12) (T := TX12) (N := 70) hx hb hts hinX12 hown hK hP 0 rfl rfl 12 (by decide) hw6 (fun _ h9 => h9) rfl dX12_ahead_251 ?_
          refine lv_iconst (v := (-1)) hx hb dX12_ahead_254 (by decide) ?_
          refine lv_icmp_ne (tgt := 263) hx hb dX12_ahead_255 (by decide) (fun c_ => ?_) (fun c_ => ?_)
          · have hf := xq_neg hf c_
            exact b263 mmI_243 mmJ_243 x1_243 x2_243 x3_243 x4_243 x5_243 _ _ _ hf hP hD hS (lv_sub hl [0, 1, 2, 3, 4, 5] rfl)
          · have hf := xq_pos hf c_
            refine lv_aload_n hx hb dX12_ahead_258 rfl (lv_at hl 0 rfl) ?_
            refine lv_iload_n hx hb dX12_ahead_259 rfl (lv_at hl 1 rfl) ?_
            refine va_put (D := (dC, dI)) (ci := 12) (v := .int x1_243) (ty := .int) (C := RX12) (T := TX12) (N := 70) hx hb hts hinX12 tyX12 tyX12_ok nmX12 hown hK hP hD hS 0 rfl rfl 12 (by decide) hw6 (fun _ h9 => h9) rfl (by decide +kernel) rfl rfl (Nat.le_of_ble_eq_true rfl) dX12_ahead_260 (fun H locs hP hD hS => ?_)
            have hP : va_P (dC, dI) vwCl [(a_p0, .inr (12, oX12 (va_up mmI_243 12 x1_243) mmJ_243 mmR)), ((mmR 0), .inl (cI, 1800, .inl mm_tapeF))] H := hP
            have hD : va_D A [(a_p0, .inr (12, oX12 (va_up mmI_243 12 x1_243) mmJ_243 mmR)), ((mmR 0), .inl (cI, 1800, .inl mm_tapeF))] := hD
            exact b263 ((va_up mmI_243 12 x1_243)) mmJ_243 x1_243 x2_243 x3_243 x4_243 x5_243 _ _ _ hf hP hD hS (lv_sub hl [0, 1, 2, 3, 4, 5] rfl)
      intro mmI_204 mmJ_204 x1_204 x2_204 x3_204 x4_204 x5_204 ls H locs hf hP hD hS hl
      have hf : fX12_ahead_l204 N mm_tapeF (xq_loop (fX12_ahead_l204 N mm_tapeF) n204) (mmI_204, mmJ_204, x1_204, x2_204, x3_204, x4_204, x5_204) = some (r0, r1) := hf
      unfold fX12_ahead_l204 at hf
      refine lv_iload_n hx hb dX12_ahead_204 rfl (lv_at hl 1 rfl) ?_
      refine lv_aload_n hx hb dX12_ahead_205 rfl (lv_at hl 0 rfl) ?_
      refine va_get (D := (dC, dI)) (ci := 12) (v := .int (mmI_204 2)) (C := RX12) (T := TX12) (N := 70) hx hb hts hinX12 hown hK hP 0 rfl rfl 2 (by decide) hw2 (fun _ h9 => h9) rfl dX12_ahead_206 ?_
      refine lv_icmp_ge (tgt := 334) hx hb dX12_ahead_209 (by decide) (fun c_ => ?_) (fun c_ => ?_)
      · have hf := xq_pos hf c_
        refine lv_aload_n hx hb dX12_ahead_334 rfl (lv_at hl 0 rfl) ?_
        refine lv_iload_n hx hb dX12_ahead_335 rfl (lv_at hl 1 rfl) ?_
        refine va_put (D := (dC, dI)) (ci := 12) (v := .int x1_204) (ty := .int) (C := RX12) (T := TX12) (N := 70) hx hb hts hinX12 tyX12 tyX12_ok nmX12 hown hK hP hD hS 0 rfl rfl 5 (by decide) hw0 (fun _ h9 => h9) rfl (by decide +kernel) rfl rfl (Nat.le_of_ble_eq_true rfl) dX12_ahead_336 (fun H locs hP hD hS => ?_)
        have hP : va_P (dC, dI) vwCl [(a_p0, .inr (12, oX12 (va_up mmI_204 5 x1_204) mmJ_204 mmR)), ((mmR 0), .inl (cI, 1800, .inl mm_tapeF))] H := hP
        have hD : va_D A [(a_p0, .inr (12, oX12 (va_up mmI_204 5 x1_204) mmJ_204 mmR)), ((mmR 0), .inl (cI, 1800, .inl mm_tapeF))] := hD
        have hP9 := hP
        have hD9 := hD
        have hS9 := hS
        cases hf
        exact xq_vret hx hb hr hlocks hK hP9 hD9 hS9 dX12_ahead_339
      · have hf := xq_neg hf c_
        refine lv_iload_n hx hb dX12_ahead_212 rfl (lv_at hl 2 rfl) ?_
        refine lv_if_eq (tgt := 231) hx hb dX12_ahead_213 (by decide) (fun c_ => ?_) (fun c_ => ?_)
        · have hf := xq_pos hf c_
          refine lv_aload_n hx hb dX12_ahead_231 rfl (lv_at hl 0 rfl) ?_
          refine va_get (D := (dC, dI)) (ci := 12) (v := .ref ((mmR 0))) (C := RX12) (T := TX12) (N := 70) hx hb hts hinX12 hown hK hP 0 rfl rfl 0 (by decide) hw3 (fun _ h9 => h9) rfl dX12_ahead_232 ?_
          refine lv_iload_n hx hb dX12_ahead_235 rfl (lv_at hl 1 rfl) ?_
          refine xq_iald hx hb hK hP 1 0 rfl rfl hf dX12_ahead_236 (fun v_1 hf => ?_)
          obtain ⟨r_2, h_3, hf⟩ := xq_bd_some hf
          refine xq_callS (As := [.int v_1]) (rest := []) ⟨hx, hb, hml, hown, hts⟩ (kX12_isDigit l dC dI cI cB cJ cZ cM z ad N v_1 h_3) (va_cwS 1 hts gX12_ahead_X12_isDigit rfl rfl rfl (by decide +kernel) ⟨Nat.le_of_ble_eq_true rfl, Nat.le_of_ble_eq_true rfl⟩) hN hK hP hD hS hA [] (by decide) rfl rfl rfl hl.1 rfl (Nat.le_of_ble_eq_true rfl) dX12_ahead_237 ⟨Nat.zero_le _, Nat.zero_le _⟩ (fun H locs hP hD hS => ?_)
          have hP : va_P (dC, dI) vwCl [(a_p0, .inr (12, oX12 mmI_204 mmJ_204 mmR)), ((mmR 0), .inl (cI, 1800, .inl mm_tapeF))] H := hP
          have hD : va_D A [(a_p0, .inr (12, oX12 mmI_204 mmJ_204 mmR)), ((mmR 0), .inl (cI, 1800, .inl mm_tapeF))] := hD
          refine W.eq (g2 := F0 m 240 ls [.int r_2]) rfl ?_
          refine lv_if_eq (tgt := 334) hx hb dX12_ahead_240 (by decide) (fun c_ => ?_) (fun c_ => ?_)
          · have hf := xq_pos hf c_
            refine lv_aload_n hx hb dX12_ahead_334 rfl (lv_at hl 0 rfl) ?_
            refine lv_iload_n hx hb dX12_ahead_335 rfl (lv_at hl 1 rfl) ?_
            refine va_put (D := (dC, dI)) (ci := 12) (v := .int x1_204) (ty := .int) (C := RX12) (T := TX12) (N := 70) hx hb hts hinX12 tyX12 tyX12_ok nmX12 hown hK hP hD hS 0 rfl rfl 5 (by decide) hw0 (fun _ h9 => h9) rfl (by decide +kernel) rfl rfl (Nat.le_of_ble_eq_true rfl) dX12_ahead_336 (fun H locs hP hD hS => ?_)
            have hP : va_P (dC, dI) vwCl [(a_p0, .inr (12, oX12 (va_up mmI_204 5 x1_204) mmJ_204 mmR)), ((mmR 0), .inl (cI, 1800, .inl mm_tapeF))] H := hP
            have hD : va_D A [(a_p0, .inr (12, oX12 (va_up mmI_204 5 x1_204) mmJ_204 mmR)), ((mmR 0), .inl (cI, 1800, .inl mm_tapeF))] := hD
            have hP9 := hP
            have hD9 := hD
            have hS9 := hS
            cases hf
            exact xq_vret hx hb hr hlocks hK hP9 hD9 hS9 dX12_ahead_339
          · have hf := xq_neg hf c_
            exact b243 mmI_204 mmJ_204 x1_204 x2_204 x3_204 x4_204 x5_204 _ _ _ hf hP hD hS (lv_sub hl [0, 1, 2, 3, 4, 5] rfl)
        · have hf := xq_neg hf c_
          refine lv_aload_n hx hb dX12_ahead_216 rfl (lv_at hl 0 rfl) ?_
          refine va_get (D := (dC, dI)) (ci := 12) (v := .ref ((mmR 0))) (C := RX12) (T := TX12) (N := 70) hx hb hts hinX12 hown hK hP 0 rfl rfl 0 (by decide) hw3 (fun _ h9 => h9) rfl dX12_ahead_217 ?_
          refine lv_iload_n hx hb dX12_ahead_220 rfl (lv_at hl 1 rfl) ?_
          refine xq_iald hx hb hK hP 1 0 rfl rfl hf dX12_ahead_221 (fun v_4 hf => ?_)
          obtain ⟨r_5, h_6, hf⟩ := xq_bd_some hf
          refine xq_callS (As := [.int v_4]) (rest := []) ⟨hx, hb, hml, hown, hts⟩ (kX12_isLetter l dC dI cI cB cJ cZ cM z ad N v_4 h_6) (va_cwS 1 hts gX12_ahead_X12_isLetter rfl rfl rfl (by decide +kernel) ⟨Nat.le_of_ble_eq_true rfl, Nat.le_of_ble_eq_true rfl⟩) hN hK hP hD hS hA [] (by decide) rfl rfl rfl hl.1 rfl (Nat.le_of_ble_eq_true rfl) dX12_ahead_222 ⟨Nat.zero_le _, Nat.zero_le _⟩ (fun H locs hP hD hS => ?_)
          have hP : va_P (dC, dI) vwCl [(a_p0, .inr (12, oX12 mmI_204 mmJ_204 mmR)), ((mmR 0), .inl (cI, 1800, .inl mm_tapeF))] H := hP
          have hD : va_D A [(a_p0, .inr (12, oX12 mmI_204 mmJ_204 mmR)), ((mmR 0), .inl (cI, 1800, .inl mm_tapeF))] := hD
          refine W.eq (g2 := F0 m 225 ls [.int r_5]) rfl ?_
          refine lv_if_eq (tgt := 334) hx hb dX12_ahead_225 (by decide) (fun c_ => ?_) (fun c_ => ?_)
          · have hf := xq_pos hf c_
            refine lv_aload_n hx hb dX12_ahead_334 rfl (lv_at hl 0 rfl) ?_
            refine lv_iload_n hx hb dX12_ahead_335 rfl (lv_at hl 1 rfl) ?_
            refine va_put (D := (dC, dI)) (ci := 12) (v := .int x1_204) (ty := .int) (C := RX12) (T := TX12) (N := 70) hx hb hts hinX12 tyX12 tyX12_ok nmX12 hown hK hP hD hS 0 rfl rfl 5 (by decide) hw0 (fun _ h9 => h9) rfl (by decide +kernel) rfl rfl (Nat.le_of_ble_eq_true rfl) dX12_ahead_336 (fun H locs hP hD hS => ?_)
            have hP : va_P (dC, dI) vwCl [(a_p0, .inr (12, oX12 (va_up mmI_204 5 x1_204) mmJ_204 mmR)), ((mmR 0), .inl (cI, 1800, .inl mm_tapeF))] H := hP
            have hD : va_D A [(a_p0, .inr (12, oX12 (va_up mmI_204 5 x1_204) mmJ_204 mmR)), ((mmR 0), .inl (cI, 1800, .inl mm_tapeF))] := hD
            have hP9 := hP
            have hD9 := hD
            have hS9 := hS
            cases hf
            exact xq_vret hx hb hr hlocks hK hP9 hD9 hS9 dX12_ahead_339
          · have hf := xq_neg hf c_
            refine lv_goto (tgt := 243) hx hb dX12_ahead_228 (by decide) ?_
            exact b243 mmI_204 mmJ_204 x1_204 x2_204 x3_204 x4_204 x5_204 _ _ _ hf hP hD hS (lv_sub hl [0, 1, 2, 3, 4, 5] rfl)
  have b199 : ∀ (mmI_199 : Nat → Int32) (mmJ_199 : Nat → Int64) (x1_199 : Int32) (x2_199 : Int32) (x3_199 : Int32) (y0_199 : Int32) (ls : Array Slot) (H : Heap) (locs : List Loc), fX12_ahead_b199 N mm_tapeF (mmI_199, mmJ_199, x1_199, x2_199, x3_199, y0_199) = some (r0, r1) → va_P (dC, dI) vwCl [(a_p0, .inr (12, oX12 mmI_199 mmJ_199 mmR)), ((mmR 0), .inl (cI, 1800, .inl mm_tapeF))] H → va_D A [(a_p0, .inr (12, oX12 mmI_199 mmJ_199 mmR)), ((mmR 0), .inl (cI, 1800, .inl mm_tapeF))] → va_S A s.heap H locs → lv_has ls 6 [(0, .ref a_p0), (1, .int x1_199), (2, .int x2_199), (3, .int x3_199)] → W p l e (headSpec wsX12_ahead { frames := 1, cells := 0, slots := 0, locals := 20 }).room s m [.ref a_p0].toArray below meth c H locs 0 0 (MQ below (xq_Q (dC, dI) vwCl (xq_tys cI cB cJ cZ cM) A [(a_p0, .inr (12, oX12 r0 r1 mmR)), ((mmR 0), .inl (cI, 1800, .inl mm_tapeF))] none) [.ref a_p0].toArray s 0 0 A) (F0 m 199 ls [.int y0_199]) := by
    intro mmI_199 mmJ_199 x1_199 x2_199 x3_199 y0_199 ls H locs hf hP hD hS hl
    unfold fX12_ahead_b199 at hf
    refine lv_istore (lv' := [(4, .int y0_199), (0, .ref a_p0), (1, .int x1_199), (2, .int x2_199), (3, .int x3_199)]) hx hb dX12_ahead_199 hl (by decide) rfl (fun ls hl => ?_)
    refine lv_iconst (v := 0) hx hb dX12_ahead_201 (by decide) ?_
    refine lv_istore (lv' := [(5, .int 0), (4, .int y0_199), (0, .ref a_p0), (1, .int x1_199), (2, .int x2_199), (3, .int x3_199)]) hx hb dX12_ahead_202 hl (by decide) rfl (fun ls hl => ?_)
    exact l204 N mmI_199 mmJ_199 x1_199 x2_199 x3_199 y0_199 0 _ _ _ hf hP hD hS (lv_sub hl [2, 3, 4, 5, 1, 0] rfl)
  have b186 : ∀ (mmI_186 : Nat → Int32) (mmJ_186 : Nat → Int64) (x1_186 : Int32) (x2_186 : Int32) (x3_186 : Int32) (y1_186 : Int32) (ls : Array Slot) (H : Heap) (locs : List Loc), fX12_ahead_b186 N mm_tapeF (mmI_186, mmJ_186, x1_186, x2_186, x3_186, y1_186) = some (r0, r1) → va_P (dC, dI) vwCl [(a_p0, .inr (12, oX12 mmI_186 mmJ_186 mmR)), ((mmR 0), .inl (cI, 1800, .inl mm_tapeF))] H → va_D A [(a_p0, .inr (12, oX12 mmI_186 mmJ_186 mmR)), ((mmR 0), .inl (cI, 1800, .inl mm_tapeF))] → va_S A s.heap H locs → lv_has ls 6 [(0, .ref a_p0), (1, .int x1_186), (2, .int x2_186), (3, .int x3_186)] → W p l e (headSpec wsX12_ahead { frames := 1, cells := 0, slots := 0, locals := 20 }).room s m [.ref a_p0].toArray below meth c H locs 0 0 (MQ below (xq_Q (dC, dI) vwCl (xq_tys cI cB cJ cZ cM) A [(a_p0, .inr (12, oX12 r0 r1 mmR)), ((mmR 0), .inl (cI, 1800, .inl mm_tapeF))] none) [.ref a_p0].toArray s 0 0 A) (F0 m 186 ls [.int y1_186, .ref a_p0]) := by
    intro mmI_186 mmJ_186 x1_186 x2_186 x3_186 y1_186 ls H locs hf hP hD hS hl
    unfold fX12_ahead_b186 at hf
    refine va_put (D := (dC, dI)) (ci := 12) (v := .int y1_186) (ty := .int) (C := RX12) (T := TX12) (N := 70) hx hb hts hinX12 tyX12 tyX12_ok nmX12 hown hK hP hD hS 0 rfl rfl 3 (by decide) hw5 (fun _ h9 => h9) rfl (by decide +kernel) rfl rfl (Nat.le_of_ble_eq_true rfl) dX12_ahead_186 (fun H locs hP hD hS => ?_)
    have hP : va_P (dC, dI) vwCl [(a_p0, .inr (12, oX12 (va_up mmI_186 3 y1_186) mmJ_186 mmR)), ((mmR 0), .inl (cI, 1800, .inl mm_tapeF))] H := hP
    have hD : va_D A [(a_p0, .inr (12, oX12 (va_up mmI_186 3 y1_186) mmJ_186 mmR)), ((mmR 0), .inl (cI, 1800, .inl mm_tapeF))] := hD
    refine lv_iload_n hx hb dX12_ahead_189 rfl (lv_at hl 2 rfl) ?_
    refine lv_if_eq (tgt := 198) hx hb dX12_ahead_190 (by decide) (fun c_ => ?_) (fun c_ => ?_)
    · have hf := xq_pos hf c_
      refine lv_iconst (v := 4) hx hb dX12_ahead_198 (by decide) ?_
      exact b199 ((va_up mmI_186 3 y1_186)) mmJ_186 x1_186 x2_186 x3_186 4 _ _ _ hf hP hD hS (lv_sub hl [0, 1, 2, 3] rfl)
    · have hf := xq_neg hf c_
      refine lv_bipush (v := 6) hx hb dX12_ahead_193 (by decide) ?_
      refine lv_goto (tgt := 199) hx hb dX12_ahead_195 (by decide) ?_
      exact b199 ((va_up mmI_186 3 y1_186)) mmJ_186 x1_186 x2_186 x3_186 6 _ _ _ hf hP hD hS (lv_sub hl [0, 1, 2, 3] rfl)
  have b176 : ∀ (mmI_176 : Nat → Int32) (mmJ_176 : Nat → Int64) (x1_176 : Int32) (x2_176 : Int32) (x3_176 : Int32) (ls : Array Slot) (H : Heap) (locs : List Loc), fX12_ahead_b176 N mm_tapeF (mmI_176, mmJ_176, x1_176, x2_176, x3_176) = some (r0, r1) → va_P (dC, dI) vwCl [(a_p0, .inr (12, oX12 mmI_176 mmJ_176 mmR)), ((mmR 0), .inl (cI, 1800, .inl mm_tapeF))] H → va_D A [(a_p0, .inr (12, oX12 mmI_176 mmJ_176 mmR)), ((mmR 0), .inl (cI, 1800, .inl mm_tapeF))] → va_S A s.heap H locs → lv_has ls 6 [(0, .ref a_p0), (1, .int x1_176), (2, .int x2_176), (3, .int x3_176)] → W p l e (headSpec wsX12_ahead { frames := 1, cells := 0, slots := 0, locals := 20 }).room s m [.ref a_p0].toArray below meth c H locs 0 0 (MQ below (xq_Q (dC, dI) vwCl (xq_tys cI cB cJ cZ cM) A [(a_p0, .inr (12, oX12 r0 r1 mmR)), ((mmR 0), .inl (cI, 1800, .inl mm_tapeF))] none) [.ref a_p0].toArray s 0 0 A) (F0 m 176 ls []) := by
    intro mmI_176 mmJ_176 x1_176 x2_176 x3_176 ls H locs hf hP hD hS hl
    unfold fX12_ahead_b176 at hf
    refine lv_aload_n hx hb dX12_ahead_176 rfl (lv_at hl 0 rfl) ?_
    refine lv_iload_n hx hb dX12_ahead_177 rfl (lv_at hl 2 rfl) ?_
    refine lv_if_eq (tgt := 185) hx hb dX12_ahead_178 (by decide) (fun c_ => ?_) (fun c_ => ?_)
    · have hf := xq_pos hf c_
      refine lv_iconst (v := 2) hx hb dX12_ahead_185 (by decide) ?_
      exact b186 mmI_176 mmJ_176 x1_176 x2_176 x3_176 2 _ _ _ hf hP hD hS (lv_sub hl [0, 1, 2, 3] rfl)
    · have hf := xq_neg hf c_
      refine lv_iconst (v := 1) hx hb dX12_ahead_181 (by decide) ?_
      refine lv_goto (tgt := 186) hx hb dX12_ahead_182 (by decide) ?_
      exact b186 mmI_176 mmJ_176 x1_176 x2_176 x3_176 1 _ _ _ hf hP hD hS (lv_sub hl [0, 1, 2, 3] rfl)
  have b135 : ∀ (mmI_135 : Nat → Int32) (mmJ_135 : Nat → Int64) (x1_135 : Int32) (x2_135 : Int32) (x3_135 : Int32) (ls : Array Slot) (H : Heap) (locs : List Loc), fX12_ahead_b135 N mm_tapeF (mmI_135, mmJ_135, x1_135, x2_135, x3_135) = some (r0, r1) → va_P (dC, dI) vwCl [(a_p0, .inr (12, oX12 mmI_135 mmJ_135 mmR)), ((mmR 0), .inl (cI, 1800, .inl mm_tapeF))] H → va_D A [(a_p0, .inr (12, oX12 mmI_135 mmJ_135 mmR)), ((mmR 0), .inl (cI, 1800, .inl mm_tapeF))] → va_S A s.heap H locs → lv_has ls 6 [(0, .ref a_p0), (1, .int x1_135), (2, .int x2_135), (3, .int x3_135)] → W p l e (headSpec wsX12_ahead { frames := 1, cells := 0, slots := 0, locals := 20 }).room s m [.ref a_p0].toArray below meth c H locs 0 0 (MQ below (xq_Q (dC, dI) vwCl (xq_tys cI cB cJ cZ cM) A [(a_p0, .inr (12, oX12 r0 r1 mmR)), ((mmR 0), .inl (cI, 1800, .inl mm_tapeF))] none) [.ref a_p0].toArray s 0 0 A) (F0 m 135 ls []) := by
    intro mmI_135 mmJ_135 x1_135 x2_135 x3_135 ls H locs hf hP hD hS hl
    unfold fX12_ahead_b135 at hf
    refine lv_aload_n hx hb dX12_ahead_135 rfl (lv_at hl 0 rfl) ?_
    refine lv_iconst (v := 0) hx hb dX12_ahead_136 (by decide) ?_
    refine va_put (D := (dC, dI)) (ci := 12) (v := .int 0) (ty := .int) (C := RX12) (T := TX12) (N := 70) hx hb hts hinX12 tyX12 tyX12_ok nmX12 hown hK hP hD hS 0 rfl rfl 6 (by decide) hw7 (fun _ h9 => h9) rfl (by decide +kernel) rfl rfl (Nat.le_of_ble_eq_true rfl) dX12_ahead_137 (fun H locs hP hD hS => ?_)
    have hP : va_P (dC, dI) vwCl [(a_p0, .inr (12, oX12 (va_up mmI_135 6 0) mmJ_135 mmR)), ((mmR 0), .inl (cI, 1800, .inl mm_tapeF))] H := hP
    have hD : va_D A [(a_p0, .inr (12, oX12 (va_up mmI_135 6 0) mmJ_135 mmR)), ((mmR 0), .inl (cI, 1800, .inl mm_tapeF))] := hD
    refine lv_aload_n hx hb dX12_ahead_140 rfl (lv_at hl 0 rfl) ?_
    refine lv_lconst (v := 0) hx hb dX12_ahead_141 (by decide) ?_
    refine va_put (D := (dC, dI)) (ci := 12) (v := .long 0) (ty := .long) (C := RX12) (T := TX12) (N := 70) hx hb hts hinX12 tyX12 tyX12_ok nmX12 hown hK hP hD hS 0 rfl rfl 7 (by decide) hw8 (fun _ h9 => h9) rfl (by decide +kernel) rfl rfl (Nat.le_of_ble_eq_true rfl) dX12_ahead_142 (fun H locs hP hD hS => ?_)
    have hP : va_P (dC, dI) vwCl [(a_p0, .inr (12, oX12 (va_up mmI_135 6 0) (va_up mmJ_135 7 0) mmR)), ((mmR 0), .inl (cI, 1800, .inl mm_tapeF))] H := hP
    have hD : va_D A [(a_p0, .inr (12, oX12 (va_up mmI_135 6 0) (va_up mmJ_135 7 0) mmR)), ((mmR 0), .inl (cI, 1800, .inl mm_tapeF))] := hD
    refine lv_aload_n hx hb dX12_ahead_145 rfl (lv_at hl 0 rfl) ?_
    refine lv_iconst (v := 3) hx hb dX12_ahead_146 (by decide) ?_
    refine va_put (D := (dC, dI)) (ci := 12) (v := .int 3) (ty := .int) (C := RX12) (T := TX12) (N := 70) hx hb hts hinX12 tyX12 tyX12_ok nmX12 hown hK hP hD hS 0 rfl rfl 3 (by decide) hw5 (fun _ h9 => h9) rfl (by decide +kernel) rfl rfl (Nat.le_of_ble_eq_true rfl) dX12_ahead_147 (fun H locs hP hD hS => ?_)
    have hP : va_P (dC, dI) vwCl [(a_p0, .inr (12, oX12 (va_up (va_up mmI_135 6 0) 3 3) (va_up mmJ_135 7 0) mmR)), ((mmR 0), .inl (cI, 1800, .inl mm_tapeF))] H := hP
    have hD : va_D A [(a_p0, .inr (12, oX12 (va_up (va_up mmI_135 6 0) 3 3) (va_up mmJ_135 7 0) mmR)), ((mmR 0), .inl (cI, 1800, .inl mm_tapeF))] := hD
    refine lv_aload_n hx hb dX12_ahead_150 rfl (lv_at hl 0 rfl) ?_
    refine lv_iload_n hx hb dX12_ahead_151 rfl (lv_at hl 1 rfl) ?_
    refine lv_iconst (v := 1) hx hb dX12_ahead_152 (by decide) ?_
    refine lv_iadd hx hb dX12_ahead_153 ?_
    refine va_put (D := (dC, dI)) (ci := 12) (v := .int (x1_135 + 1)) (ty := .int) (C := RX12) (T := TX12) (N := 70) hx hb hts hinX12 tyX12 tyX12_ok nmX12 hown hK hP hD hS 0 rfl rfl 5 (by decide) hw0 (fun _ h9 => h9) rfl (by decide +kernel) rfl rfl (Nat.le_of_ble_eq_true rfl) dX12_ahead_154 (fun H locs hP hD hS => ?_)
    have hP : va_P (dC, dI) vwCl [(a_p0, .inr (12, oX12 (va_up (va_up (va_up mmI_135 6 0) 3 3) 5 (x1_135 + 1)) (va_up mmJ_135 7 0) mmR)), ((mmR 0), .inl (cI, 1800, .inl mm_tapeF))] H := hP
    have hD : va_D A [(a_p0, .inr (12, oX12 (va_up (va_up (va_up mmI_135 6 0) 3 3) 5 (x1_135 + 1)) (va_up mmJ_135 7 0) mmR)), ((mmR 0), .inl (cI, 1800, .inl mm_tapeF))] := hD
    refine lv_iload_n hx hb dX12_ahead_157 rfl (lv_at hl 2 rfl) ?_
    refine lv_if_ne (tgt := 176) hx hb dX12_ahead_158 (by decide) (fun c_ => ?_) (fun c_ => ?_)
    · have hf := xq_neg hf c_
      exact b176 ((va_up (va_up (va_up mmI_135 6 0) 3 3) 5 (x1_135 + 1))) ((va_up mmJ_135 7 0)) x1_135 x2_135 x3_135 _ _ _ hf hP hD hS (lv_sub hl [0, 1, 2, 3] rfl)
    · have hf := xq_pos hf c_
      refine lv_iload_n hx hb dX12_ahead_161 rfl (lv_at hl 3 rfl) ?_
      refine lv_if_ne (tgt := 176) hx hb dX12_ahead_162 (by decide) (fun c_ => ?_) (fun c_ => ?_)
      · have hf := xq_neg hf c_
        exact b176 ((va_up (va_up (va_up mmI_135 6 0) 3 3) 5 (x1_135 + 1))) ((va_up mmJ_135 7 0)) x1_135 x2_135 x3_135 _ _ _ hf hP hD hS (lv_sub hl [0, 1, 2, 3] rfl)
      · have hf := xq_pos hf c_
        refine lv_aload_n hx hb dX12_ahead_165 rfl (lv_at hl 0 rfl) ?_
        refine lv_aload_n hx hb dX12_ahead_166 rfl (lv_at hl 0 rfl) ?_
        refine va_get (D := (dC, dI)) (ci := 12) (v := .ref ((mmR 0))) (C := RX12) (T := TX12) (N := 70) hx hb hts hinX12 hown hK hP 0 rfl rfl 0 (by decide) hw3 (fun _ h9 => h9) rfl dX12_ahead_167 ?_
        refine lv_iload_n hx hb dX12_ahead_170 rfl (lv_at hl 1 rfl) ?_
        refine xq_iald hx hb hK hP 1 0 rfl rfl hf dX12_ahead_171 (fun v_1 hf => ?_)
        refine va_put (D := (dC, dI)) (ci := 12) (v := .int v_1) (ty := .int) (C := RX12) (T := TX12) (N := 70) hx hb hts hinX12 tyX12 tyX12_ok nmX12 hown hK hP hD hS 0 rfl rfl 6 (by decide) hw7 (fun _ h9 => h9) rfl (by decide +kernel) rfl rfl (Nat.le_of_ble_eq_true rfl) dX12_ahead_172 (fun H locs hP hD hS => ?_)
        have hP : va_P (dC, dI) vwCl [(a_p0, .inr (12, oX12 (va_up (va_up (va_up mmI_135 6 v_1) 3 3) 5 (x1_135 + 1)) (va_up mmJ_135 7 0) mmR)), ((mmR 0), .inl (cI, 1800, .inl mm_tapeF))] H := hP
        have hD : va_D A [(a_p0, .inr (12, oX12 (va_up (va_up (va_up mmI_135 6 v_1) 3 3) 5 (x1_135 + 1)) (va_up mmJ_135 7 0) mmR)), ((mmR 0), .inl (cI, 1800, .inl mm_tapeF))] := hD
        have hP9 := hP
        have hD9 := hD
        have hS9 := hS
        cases hf
        exact xq_vret hx hb hr hlocks hK hP9 hD9 hS9 dX12_ahead_175
  have b130 : ∀ (mmI_130 : Nat → Int32) (mmJ_130 : Nat → Int64) (x1_130 : Int32) (x2_130 : Int32) (x3_130 : Int32) (ls : Array Slot) (H : Heap) (locs : List Loc), fX12_ahead_b130 N mm_tapeF (mmI_130, mmJ_130, x1_130, x2_130, x3_130) = some (r0, r1) → va_P (dC, dI) vwCl [(a_p0, .inr (12, oX12 mmI_130 mmJ_130 mmR)), ((mmR 0), .inl (cI, 1800, .inl mm_tapeF))] H → va_D A [(a_p0, .inr (12, oX12 mmI_130 mmJ_130 mmR)), ((mmR 0), .inl (cI, 1800, .inl mm_tapeF))] → va_S A s.heap H locs → lv_has ls 6 [(0, .ref a_p0), (1, .int x1_130), (2, .int x2_130), (3, .int x3_130)] → W p l e (headSpec wsX12_ahead { frames := 1, cells := 0, slots := 0, locals := 20 }).room s m [.ref a_p0].toArray below meth c H locs 0 0 (MQ below (xq_Q (dC, dI) vwCl (xq_tys cI cB cJ cZ cM) A [(a_p0, .inr (12, oX12 r0 r1 mmR)), ((mmR 0), .inl (cI, 1800, .inl mm_tapeF))] none) [.ref a_p0].toArray s 0 0 A) (F0 m 130 ls []) := by
    intro mmI_130 mmJ_130 x1_130 x2_130 x3_130 ls H locs hf hP hD hS hl
    unfold fX12_ahead_b130 at hf
    refine lv_aload_n hx hb dX12_ahead_130 rfl (lv_at hl 0 rfl) ?_
    refine lv_iload_n hx hb dX12_ahead_131 rfl (lv_at hl 1 rfl) ?_
    refine va_put (D := (dC, dI)) (ci := 12) (v := .int x1_130) (ty := .int) (C := RX12) (T := TX12) (N := 70) hx hb hts hinX12 tyX12 tyX12_ok nmX12 hown hK hP hD hS 0 rfl rfl 12 (by decide) hw6 (fun _ h9 => h9) rfl (by decide +kernel) rfl rfl (Nat.le_of_ble_eq_true rfl) dX12_ahead_132 (fun H locs hP hD hS => ?_)
    have hP : va_P (dC, dI) vwCl [(a_p0, .inr (12, oX12 (va_up mmI_130 12 x1_130) mmJ_130 mmR)), ((mmR 0), .inl (cI, 1800, .inl mm_tapeF))] H := hP
    have hD : va_D A [(a_p0, .inr (12, oX12 (va_up mmI_130 12 x1_130) mmJ_130 mmR)), ((mmR 0), .inl (cI, 1800, .inl mm_tapeF))] := hD
    exact b135 ((va_up mmI_130 12 x1_130)) mmJ_130 x1_130 x2_130 x3_130 _ _ _ hf hP hD hS (lv_sub hl [0, 1, 2, 3] rfl)
  have b98 : ∀ (mmI_98 : Nat → Int32) (mmJ_98 : Nat → Int64) (x1_98 : Int32) (x2_98 : Int32) (x3_98 : Int32) (ls : Array Slot) (H : Heap) (locs : List Loc), fX12_ahead_b98 N mm_tapeF (mmI_98, mmJ_98, x1_98, x2_98, x3_98) = some (r0, r1) → va_P (dC, dI) vwCl [(a_p0, .inr (12, oX12 mmI_98 mmJ_98 mmR)), ((mmR 0), .inl (cI, 1800, .inl mm_tapeF))] H → va_D A [(a_p0, .inr (12, oX12 mmI_98 mmJ_98 mmR)), ((mmR 0), .inl (cI, 1800, .inl mm_tapeF))] → va_S A s.heap H locs → lv_has ls 6 [(0, .ref a_p0), (1, .int x1_98), (2, .int x2_98), (3, .int x3_98)] → W p l e (headSpec wsX12_ahead { frames := 1, cells := 0, slots := 0, locals := 20 }).room s m [.ref a_p0].toArray below meth c H locs 0 0 (MQ below (xq_Q (dC, dI) vwCl (xq_tys cI cB cJ cZ cM) A [(a_p0, .inr (12, oX12 r0 r1 mmR)), ((mmR 0), .inl (cI, 1800, .inl mm_tapeF))] none) [.ref a_p0].toArray s 0 0 A) (F0 m 98 ls []) := by
    intro mmI_98 mmJ_98 x1_98 x2_98 x3_98 ls H locs hf hP hD hS hl
    unfold fX12_ahead_b98 at hf
    refine lv_iload_n hx hb dX12_ahead_98 rfl (lv_at hl 1 rfl) ?_
    refine lv_if_le (tgt := 135) hx hb dX12_ahead_99 (by decide) (fun c_ => ?_) (fun c_ => ?_)
    · have hf := xq_pos hf c_
      exact b135 mmI_98 mmJ_98 x1_98 x2_98 x3_98 _ _ _ hf hP hD hS (lv_sub hl [0, 1, 2, 3] rfl)
    · have hf := xq_neg hf c_
      refine lv_aload_n hx hb dX12_ahead_102 rfl (lv_at hl 0 rfl) ?_
      refine va_get (D := (dC, dI)) (ci := 12) (v := .ref ((mmR 0))) (C := RX12) (T := TX12) (N := 70) hx hb hts hinX12 hown hK hP 0 rfl rfl 0 (by decide) hw3 (fun _ h9 => h9) rfl dX12_ahead_103 ?_
      refine lv_iload_n hx hb dX12_ahead_106 rfl (lv_at hl 1 rfl) ?_
      refine lv_iconst (v := 1) hx hb dX12_ahead_107 (by decide) ?_
      refine lv_isub hx hb dX12_ahead_108 ?_
      refine xq_iald hx hb hK hP 1 0 rfl rfl hf dX12_ahead_109 (fun v_1 hf => ?_)
      obtain ⟨r_2, h_3, hf⟩ := xq_bd_some hf
      refine xq_callS (As := [.int v_1]) (rest := []) ⟨hx, hb, hml, hown, hts⟩ (kX12_isLetter l dC dI cI cB cJ cZ cM z ad N v_1 h_3) (va_cwS 1 hts gX12_ahead_X12_isLetter rfl rfl rfl (by decide +kernel) ⟨Nat.le_of_ble_eq_true rfl, Nat.le_of_ble_eq_true rfl⟩) hN hK hP hD hS hA [] (by decide) rfl rfl rfl hl.1 rfl (Nat.le_of_ble_eq_true rfl) dX12_ahead_110 ⟨Nat.zero_le _, Nat.zero_le _⟩ (fun H locs hP hD hS => ?_)
      have hP : va_P (dC, dI) vwCl [(a_p0, .inr (12, oX12 mmI_98 mmJ_98 mmR)), ((mmR 0), .inl (cI, 1800, .inl mm_tapeF))] H := hP
      have hD : va_D A [(a_p0, .inr (12, oX12 mmI_98 mmJ_98 mmR)), ((mmR 0), .inl (cI, 1800, .inl mm_tapeF))] := hD
      refine W.eq (g2 := F0 m 113 ls [.int r_2]) rfl ?_
      refine lv_if_ne (tgt := 130) hx hb dX12_ahead_113 (by decide) (fun c_ => ?_) (fun c_ => ?_)
      · have hf := xq_neg hf c_
        exact b130 mmI_98 mmJ_98 x1_98 x2_98 x3_98 _ _ _ hf hP hD hS (lv_sub hl [0, 1, 2, 3] rfl)
      · have hf := xq_pos hf c_
        refine lv_aload_n hx hb dX12_ahead_116 rfl (lv_at hl 0 rfl) ?_
        refine va_get (D := (dC, dI)) (ci := 12) (v := .ref ((mmR 0))) (C := RX12) (T := TX12) (N := 70) hx hb hts hinX12 hown hK hP 0 rfl rfl 0 (by decide) hw3 (fun _ h9 => h9) rfl dX12_ahead_117 ?_
        refine lv_iload_n hx hb dX12_ahead_120 rfl (lv_at hl 1 rfl) ?_
        refine lv_iconst (v := 1) hx hb dX12_ahead_121 (by decide) ?_
        refine lv_isub hx hb dX12_ahead_122 ?_
        refine xq_iald hx hb hK hP 1 0 rfl rfl hf dX12_ahead_123 (fun v_4 hf => ?_)
        obtain ⟨r_5, h_6, hf⟩ := xq_bd_some hf
        refine xq_callS (As := [.int v_4]) (rest := []) ⟨hx, hb, hml, hown, hts⟩ (kX12_isDigit l dC dI cI cB cJ cZ cM z ad N v_4 h_6) (va_cwS 1 hts gX12_ahead_X12_isDigit rfl rfl rfl (by decide +kernel) ⟨Nat.le_of_ble_eq_true rfl, Nat.le_of_ble_eq_true rfl⟩) hN hK hP hD hS hA [] (by decide) rfl rfl rfl hl.1 rfl (Nat.le_of_ble_eq_true rfl) dX12_ahead_124 ⟨Nat.zero_le _, Nat.zero_le _⟩ (fun H locs hP hD hS => ?_)
        have hP : va_P (dC, dI) vwCl [(a_p0, .inr (12, oX12 mmI_98 mmJ_98 mmR)), ((mmR 0), .inl (cI, 1800, .inl mm_tapeF))] H := hP
        have hD : va_D A [(a_p0, .inr (12, oX12 mmI_98 mmJ_98 mmR)), ((mmR 0), .inl (cI, 1800, .inl mm_tapeF))] := hD
        refine W.eq (g2 := F0 m 127 ls [.int r_5]) rfl ?_
        refine lv_if_eq (tgt := 135) hx hb dX12_ahead_127 (by decide) (fun c_ => ?_) (fun c_ => ?_)
        · have hf := xq_pos hf c_
          exact b135 mmI_98 mmJ_98 x1_98 x2_98 x3_98 _ _ _ hf hP hD hS (lv_sub hl [0, 1, 2, 3] rfl)
        · have hf := xq_neg hf c_
          exact b130 mmI_98 mmJ_98 x1_98 x2_98 x3_98 _ _ _ hf hP hD hS (lv_sub hl [0, 1, 2, 3] rfl)
  have b41 : ∀ (mmI_41 : Nat → Int32) (mmJ_41 : Nat → Int64) (x1_41 : Int32) (ls : Array Slot) (H : Heap) (locs : List Loc), fX12_ahead_b41 N mm_tapeF (mmI_41, mmJ_41, x1_41) = some (r0, r1) → va_P (dC, dI) vwCl [(a_p0, .inr (12, oX12 mmI_41 mmJ_41 mmR)), ((mmR 0), .inl (cI, 1800, .inl mm_tapeF))] H → va_D A [(a_p0, .inr (12, oX12 mmI_41 mmJ_41 mmR)), ((mmR 0), .inl (cI, 1800, .inl mm_tapeF))] → va_S A s.heap H locs → lv_has ls 6 [(0, .ref a_p0), (1, .int x1_41)] → W p l e (headSpec wsX12_ahead { frames := 1, cells := 0, slots := 0, locals := 20 }).room s m [.ref a_p0].toArray below meth c H locs 0 0 (MQ below (xq_Q (dC, dI) vwCl (xq_tys cI cB cJ cZ cM) A [(a_p0, .inr (12, oX12 r0 r1 mmR)), ((mmR 0), .inl (cI, 1800, .inl mm_tapeF))] none) [.ref a_p0].toArray s 0 0 A) (F0 m 41 ls []) := by
    intro mmI_41 mmJ_41 x1_41 ls H locs hf hP hD hS hl
    unfold fX12_ahead_b41 at hf
    refine lv_aload_n hx hb dX12_ahead_41 rfl (lv_at hl 0 rfl) ?_
    refine lv_iload_n hx hb dX12_ahead_42 rfl (lv_at hl 1 rfl) ?_
    refine va_put (D := (dC, dI)) (ci := 12) (v := .int x1_41) (ty := .int) (C := RX12) (T := TX12) (N := 70) hx hb hts hinX12 tyX12 tyX12_ok nmX12 hown hK hP hD hS 0 rfl rfl 4 (by decide) hw4 (fun _ h9 => h9) rfl (by decide +kernel) rfl rfl (Nat.le_of_ble_eq_true rfl) dX12_ahead_43 (fun H locs hP hD hS => ?_)
    have hP : va_P (dC, dI) vwCl [(a_p0, .inr (12, oX12 (va_up mmI_41 4 x1_41) mmJ_41 mmR)), ((mmR 0), .inl (cI, 1800, .inl mm_tapeF))] H := hP
    have hD : va_D A [(a_p0, .inr (12, oX12 (va_up mmI_41 4 x1_41) mmJ_41 mmR)), ((mmR 0), .inl (cI, 1800, .inl mm_tapeF))] := hD
    refine lv_aload_n hx hb dX12_ahead_46 rfl (lv_at hl 0 rfl) ?_
    refine lv_iload_n hx hb dX12_ahead_47 rfl (lv_at hl 1 rfl) ?_
    refine va_put (D := (dC, dI)) (ci := 12) (v := .int x1_41) (ty := .int) (C := RX12) (T := TX12) (N := 70) hx hb hts hinX12 tyX12 tyX12_ok nmX12 hown hK hP hD hS 0 rfl rfl 5 (by decide) hw0 (fun _ h9 => h9) rfl (by decide +kernel) rfl rfl (Nat.le_of_ble_eq_true rfl) dX12_ahead_48 (fun H locs hP hD hS => ?_)
    have hP : va_P (dC, dI) vwCl [(a_p0, .inr (12, oX12 (va_up (va_up mmI_41 4 x1_41) 5 x1_41) mmJ_41 mmR)), ((mmR 0), .inl (cI, 1800, .inl mm_tapeF))] H := hP
    have hD : va_D A [(a_p0, .inr (12, oX12 (va_up (va_up mmI_41 4 x1_41) 5 x1_41) mmJ_41 mmR)), ((mmR 0), .inl (cI, 1800, .inl mm_tapeF))] := hD
    refine lv_aload_n hx hb dX12_ahead_51 rfl (lv_at hl 0 rfl) ?_
    refine lv_iconst (v := 0) hx hb dX12_ahead_52 (by decide) ?_
    refine va_put (D := (dC, dI)) (ci := 12) (v := .int 0) (ty := .int) (C := RX12) (T := TX12) (N := 70) hx hb hts hinX12 tyX12 tyX12_ok nmX12 hown hK hP hD hS 0 rfl rfl 3 (by decide) hw5 (fun _ h9 => h9) rfl (by decide +kernel) rfl rfl (Nat.le_of_ble_eq_true rfl) dX12_ahead_53 (fun H locs hP hD hS => ?_)
    have hP : va_P (dC, dI) vwCl [(a_p0, .inr (12, oX12 (va_up (va_up (va_up mmI_41 4 x1_41) 5 x1_41) 3 0) mmJ_41 mmR)), ((mmR 0), .inl (cI, 1800, .inl mm_tapeF))] H := hP
    have hD : va_D A [(a_p0, .inr (12, oX12 (va_up (va_up (va_up mmI_41 4 x1_41) 5 x1_41) 3 0) mmJ_41 mmR)), ((mmR 0), .inl (cI, 1800, .inl mm_tapeF))] := hD
    refine lv_aload_n hx hb dX12_ahead_56 rfl (lv_at hl 0 rfl) ?_
    refine lv_iconst (v := (-1)) hx hb dX12_ahead_57 (by decide) ?_
    refine va_put (D := (dC, dI)) (ci := 12) (v := .int ((-1))) (ty := .int) (C := RX12) (T := TX12) (N := 70) hx hb hts hinX12 tyX12 tyX12_ok nmX12 hown hK hP hD hS 0 rfl rfl 12 (by decide) hw6 (fun _ h9 => h9) rfl (by decide +kernel) rfl rfl (Nat.le_of_ble_eq_true rfl) dX12_ahead_58 (fun H locs hP hD hS => ?_)
    have hP : va_P (dC, dI) vwCl [(a_p0, .inr (12, oX12 (va_up (va_up (va_up (va_up mmI_41 4 x1_41) 5 x1_41) 3 0) 12 ((-1))) mmJ_41 mmR)), ((mmR 0), .inl (cI, 1800, .inl mm_tapeF))] H := hP
    have hD : va_D A [(a_p0, .inr (12, oX12 (va_up (va_up (va_up (va_up mmI_41 4 x1_41) 5 x1_41) 3 0) 12 ((-1))) mmJ_41 mmR)), ((mmR 0), .inl (cI, 1800, .inl mm_tapeF))] := hD
    refine lv_iload_n hx hb dX12_ahead_61 rfl (lv_at hl 1 rfl) ?_
    refine lv_aload_n hx hb dX12_ahead_62 rfl (lv_at hl 0 rfl) ?_
    refine va_get (D := (dC, dI)) (ci := 12) (v := .int (mmI_41 2)) (C := RX12) (T := TX12) (N := 70) hx hb hts hinX12 hown hK hP 0 rfl rfl 2 (by decide) hw2 (fun _ h9 => h9) rfl dX12_ahead_63 ?_
    refine lv_icmp_lt (tgt := 70) hx hb dX12_ahead_66 (by decide) (fun c_ => ?_) (fun c_ => ?_)
    · have hf := xq_pos hf c_
      refine lv_aload_n hx hb dX12_ahead_70 rfl (lv_at hl 0 rfl) ?_
      refine va_get (D := (dC, dI)) (ci := 12) (v := .ref ((mmR 0))) (C := RX12) (T := TX12) (N := 70) hx hb hts hinX12 hown hK hP 0 rfl rfl 0 (by decide) hw3 (fun _ h9 => h9) rfl dX12_ahead_71 ?_
      refine lv_iload_n hx hb dX12_ahead_74 rfl (lv_at hl 1 rfl) ?_
      refine xq_iald hx hb hK hP 1 0 rfl rfl hf dX12_ahead_75 (fun v_1 hf => ?_)
      obtain ⟨r_2, h_3, hf⟩ := xq_bd_some hf
      refine xq_callS (As := [.int v_1]) (rest := []) ⟨hx, hb, hml, hown, hts⟩ (kX12_isLetter l dC dI cI cB cJ cZ cM z ad N v_1 h_3) (va_cwS 1 hts gX12_ahead_X12_isLetter rfl rfl rfl (by decide +kernel) ⟨Nat.le_of_ble_eq_true rfl, Nat.le_of_ble_eq_true rfl⟩) hN hK hP hD hS hA [] (by decide) rfl rfl rfl hl.1 rfl (Nat.le_of_ble_eq_true rfl) dX12_ahead_76 ⟨Nat.zero_le _, Nat.zero_le _⟩ (fun H locs hP hD hS => ?_)
      have hP : va_P (dC, dI) vwCl [(a_p0, .inr (12, oX12 (va_up (va_up (va_up (va_up mmI_41 4 x1_41) 5 x1_41) 3 0) 12 ((-1))) mmJ_41 mmR)), ((mmR 0), .inl (cI, 1800, .inl mm_tapeF))] H := hP
      have hD : va_D A [(a_p0, .inr (12, oX12 (va_up (va_up (va_up (va_up mmI_41 4 x1_41) 5 x1_41) 3 0) 12 ((-1))) mmJ_41 mmR)), ((mmR 0), .inl (cI, 1800, .inl mm_tapeF))] := hD
      refine W.eq (g2 := F0 m 79 ls [.int r_2]) rfl ?_
      refine lv_istore_n (lv' := [(2, .int r_2), (0, .ref a_p0), (1, .int x1_41)]) hx hb dX12_ahead_79 rfl hl (by decide) rfl (fun ls hl => ?_)
      refine lv_aload_n hx hb dX12_ahead_80 rfl (lv_at hl 1 rfl) ?_
      refine va_get (D := (dC, dI)) (ci := 12) (v := .ref ((mmR 0))) (C := RX12) (T := TX12) (N := 70) hx hb hts hinX12 hown hK hP 0 rfl rfl 0 (by decide) hw3 (fun _ h9 => h9) rfl dX12_ahead_81 ?_
      refine lv_iload_n hx hb dX12_ahead_84 rfl (lv_at hl 2 rfl) ?_
      refine xq_iald hx hb hK hP 1 0 rfl rfl hf dX12_ahead_85 (fun v_4 hf => ?_)
      obtain ⟨r_5, h_6, hf⟩ := xq_bd_some hf
      refine xq_callS (As := [.int v_4]) (rest := []) ⟨hx, hb, hml, hown, hts⟩ (kX12_isDigit l dC dI cI cB cJ cZ cM z ad N v_4 h_6) (va_cwS 1 hts gX12_ahead_X12_isDigit rfl rfl rfl (by decide +kernel) ⟨Nat.le_of_ble_eq_true rfl, Nat.le_of_ble_eq_true rfl⟩) hN hK hP hD hS hA [] (by decide) rfl rfl rfl hl.1 rfl (Nat.le_of_ble_eq_true rfl) dX12_ahead_86 ⟨Nat.zero_le _, Nat.zero_le _⟩ (fun H locs hP hD hS => ?_)
      have hP : va_P (dC, dI) vwCl [(a_p0, .inr (12, oX12 (va_up (va_up (va_up (va_up mmI_41 4 x1_41) 5 x1_41) 3 0) 12 ((-1))) mmJ_41 mmR)), ((mmR 0), .inl (cI, 1800, .inl mm_tapeF))] H := hP
      have hD : va_D A [(a_p0, .inr (12, oX12 (va_up (va_up (va_up (va_up mmI_41 4 x1_41) 5 x1_41) 3 0) 12 ((-1))) mmJ_41 mmR)), ((mmR 0), .inl (cI, 1800, .inl mm_tapeF))] := hD
      refine W.eq (g2 := F0 m 89 ls [.int r_5]) rfl ?_
      refine lv_istore_n (lv' := [(3, .int r_5), (2, .int r_2), (0, .ref a_p0), (1, .int x1_41)]) hx hb dX12_ahead_89 rfl hl (by decide) rfl (fun ls hl => ?_)
      refine lv_iload_n hx hb dX12_ahead_90 rfl (lv_at hl 1 rfl) ?_
      refine lv_if_ne (tgt := 98) hx hb dX12_ahead_91 (by decide) (fun c_ => ?_) (fun c_ => ?_)
      · have hf := xq_neg hf c_
        exact b98 ((va_up (va_up (va_up (va_up mmI_41 4 x1_41) 5 x1_41) 3 0) 12 ((-1)))) mmJ_41 x1_41 r_2 r_5 _ _ _ hf hP hD hS (lv_sub hl [2, 3, 1, 0] rfl)
      · have hf := xq_pos hf c_
        refine lv_iload_n hx hb dX12_ahead_94 rfl (lv_at hl 0 rfl) ?_
        refine lv_if_eq (tgt := 135) hx hb dX12_ahead_95 (by decide) (fun c_ => ?_) (fun c_ => ?_)
        · have hf := xq_pos hf c_
          exact b135 ((va_up (va_up (va_up (va_up mmI_41 4 x1_41) 5 x1_41) 3 0) 12 ((-1)))) mmJ_41 x1_41 r_2 r_5 _ _ _ hf hP hD hS (lv_sub hl [2, 3, 1, 0] rfl)
        · have hf := xq_neg hf c_
          exact b98 ((va_up (va_up (va_up (va_up mmI_41 4 x1_41) 5 x1_41) 3 0) 12 ((-1)))) mmJ_41 x1_41 r_2 r_5 _ _ _ hf hP hD hS (lv_sub hl [2, 3, 1, 0] rfl)
    · have hf := xq_neg hf c_
      have hP9 := hP
      have hD9 := hD
      have hS9 := hS
      cases hf
      exact xq_vret hx hb hr hlocks hK hP9 hD9 hS9 dX12_ahead_69
  have l5 : ∀ n5 : Nat, ∀ (mmI_5 : Nat → Int32) (mmJ_5 : Nat → Int64) (x1_5 : Int32) (ls : Array Slot) (H : Heap) (locs : List Loc), xq_loop (fX12_ahead_l5 N mm_tapeF) n5 (mmI_5, mmJ_5, x1_5) = some (r0, r1) → va_P (dC, dI) vwCl [(a_p0, .inr (12, oX12 mmI_5 mmJ_5 mmR)), ((mmR 0), .inl (cI, 1800, .inl mm_tapeF))] H → va_D A [(a_p0, .inr (12, oX12 mmI_5 mmJ_5 mmR)), ((mmR 0), .inl (cI, 1800, .inl mm_tapeF))] → va_S A s.heap H locs → lv_has ls 6 [(0, .ref a_p0), (1, .int x1_5)] → W p l e (headSpec wsX12_ahead { frames := 1, cells := 0, slots := 0, locals := 20 }).room s m [.ref a_p0].toArray below meth c H locs 0 0 (MQ below (xq_Q (dC, dI) vwCl (xq_tys cI cB cJ cZ cM) A [(a_p0, .inr (12, oX12 r0 r1 mmR)), ((mmR 0), .inl (cI, 1800, .inl mm_tapeF))] none) [.ref a_p0].toArray s 0 0 A) (F0 m 5 ls []) := by
    intro n5
    induction n5 with
    | zero => intro mmI_5 mmJ_5 x1_5 ls H locs hf; cases (show none = some (r0, r1) from hf)
    | succ n5 ih5 =>
      have b35 : ∀ (mmI_35 : Nat → Int32) (mmJ_35 : Nat → Int64) (x1_35 : Int32) (ls : Array Slot) (H : Heap) (locs : List Loc), fX12_ahead_b35 N mm_tapeF (xq_loop (fX12_ahead_l5 N mm_tapeF) n5) (mmI_35, mmJ_35, x1_35) = some (r0, r1) → va_P (dC, dI) vwCl [(a_p0, .inr (12, oX12 mmI_35 mmJ_35 mmR)), ((mmR 0), .inl (cI, 1800, .inl mm_tapeF))] H → va_D A [(a_p0, .inr (12, oX12 mmI_35 mmJ_35 mmR)), ((mmR 0), .inl (cI, 1800, .inl mm_tapeF))] → va_S A s.heap H locs → lv_has ls 6 [(0, .ref a_p0), (1, .int x1_35)] → W p l e (headSpec wsX12_ahead { frames := 1, cells := 0, slots := 0, locals := 20 }).room s m [.ref a_p0].toArray below meth c H locs 0 0 (MQ below (xq_Q (dC, dI) vwCl (xq_tys cI cB cJ cZ cM) A [(a_p0, .inr (12, oX12 r0 r1 mmR)), ((mmR 0), .inl (cI, 1800, .inl mm_tapeF))] none) [.ref a_p0].toArray s 0 0 A) (F0 m 35 ls []) := by
        intro mmI_35 mmJ_35 x1_35 ls H locs hf hP hD hS hl
        unfold fX12_ahead_b35 at hf
        refine lv_iinc (v := x1_35 + 1) (lv' := [(1, .int (x1_35 + 1)), (0, .ref a_p0)]) hx hb dX12_ahead_35 hl (k := 1) rfl (congrArg (fun q9 => x1_35 + q9) (by decide : Int32.ofInt 1 = 1)) (by decide) rfl (fun ls hl => ?_)
        refine lv_goto (tgt := 5) hx hb dX12_ahead_38 (by decide) ?_
        exact ih5 mmI_35 mmJ_35 (x1_35 + 1) _ _ _ hf hP hD hS (lv_sub hl [1, 0] rfl)
      intro mmI_5 mmJ_5 x1_5 ls H locs hf hP hD hS hl
      have hf : fX12_ahead_l5 N mm_tapeF (xq_loop (fX12_ahead_l5 N mm_tapeF) n5) (mmI_5, mmJ_5, x1_5) = some (r0, r1) := hf
      unfold fX12_ahead_l5 at hf
      refine lv_iload_n hx hb dX12_ahead_5 rfl (lv_at hl 1 rfl) ?_
      refine lv_aload_n hx hb dX12_ahead_6 rfl (lv_at hl 0 rfl) ?_
      refine va_get (D := (dC, dI)) (ci := 12) (v := .int (mmI_5 2)) (C := RX12) (T := TX12) (N := 70) hx hb hts hinX12 hown hK hP 0 rfl rfl 2 (by decide) hw2 (fun _ h9 => h9) rfl dX12_ahead_7 ?_
      refine lv_icmp_ge (tgt := 41) hx hb dX12_ahead_10 (by decide) (fun c_ => ?_) (fun c_ => ?_)
      · have hf := xq_pos hf c_
        exact b41 mmI_5 mmJ_5 x1_5 _ _ _ hf hP hD hS (lv_sub hl [0, 1] rfl)
      · have hf := xq_neg hf c_
        refine lv_aload_n hx hb dX12_ahead_13 rfl (lv_at hl 0 rfl) ?_
        refine va_get (D := (dC, dI)) (ci := 12) (v := .ref ((mmR 0))) (C := RX12) (T := TX12) (N := 70) hx hb hts hinX12 hown hK hP 0 rfl rfl 0 (by decide) hw3 (fun _ h9 => h9) rfl dX12_ahead_14 ?_
        refine lv_iload_n hx hb dX12_ahead_17 rfl (lv_at hl 1 rfl) ?_
        refine xq_iald hx hb hK hP 1 0 rfl rfl hf dX12_ahead_18 (fun v_1 hf => ?_)
        refine lv_bipush (v := 32) hx hb dX12_ahead_19 (by decide) ?_
        refine lv_icmp_eq (tgt := 35) hx hb dX12_ahead_21 (by decide) (fun c_ => ?_) (fun c_ => ?_)
        · have hf := xq_pos hf c_
          exact b35 mmI_5 mmJ_5 x1_5 _ _ _ hf hP hD hS (lv_sub hl [0, 1] rfl)
        · have hf := xq_neg hf c_
          refine lv_aload_n hx hb dX12_ahead_24 rfl (lv_at hl 0 rfl) ?_
          refine va_get (D := (dC, dI)) (ci := 12) (v := .ref ((mmR 0))) (C := RX12) (T := TX12) (N := 70) hx hb hts hinX12 hown hK hP 0 rfl rfl 0 (by decide) hw3 (fun _ h9 => h9) rfl dX12_ahead_25 ?_
          refine lv_iload_n hx hb dX12_ahead_28 rfl (lv_at hl 1 rfl) ?_
          refine xq_iald hx hb hK hP 1 0 rfl rfl hf dX12_ahead_29 (fun v_2 hf => ?_)
          refine lv_bipush (v := 10) hx hb dX12_ahead_30 (by decide) ?_
          refine lv_icmp_ne (tgt := 41) hx hb dX12_ahead_32 (by decide) (fun c_ => ?_) (fun c_ => ?_)
          · have hf := xq_neg hf c_
            exact b41 mmI_5 mmJ_5 x1_5 _ _ _ hf hP hD hS (lv_sub hl [0, 1] rfl)
          · have hf := xq_pos hf c_
            exact b35 mmI_5 mmJ_5 x1_5 _ _ _ hf hP hD hS (lv_sub hl [0, 1] rfl)
  unfold fX12_ahead at hf
  refine lv_aload_n hx hb dX12_ahead_0 rfl (lv_at hl 0 rfl) ?_
  refine va_get (D := (dC, dI)) (ci := 12) (v := .int (mmI 5)) (C := RX12) (T := TX12) (N := 70) hx hb hts hinX12 hown hK hP 0 rfl rfl 5 (by decide) hw0 (fun _ h9 => h9) rfl dX12_ahead_1 ?_
  refine lv_istore_n (lv' := [(1, .int (mmI 5)), (0, .ref a_p0)]) hx hb dX12_ahead_4 rfl hl (by decide) rfl (fun ls hl => ?_)
  exact l5 N mmI mmJ (mmI 5) _ _ _ hf hP hD hS (lv_sub hl [1, 0] rfl)
def dsX12_isSign_0 : List (Nat × Instr × Nat) := [(0, (.aload_n 0, 1)), (1, (.getfield 20, 3)), (4, (.iconst 3, 1)), (5, (.if_icmp .ne 15, 3)), (8, (.aload_n 0, 1)), (9, (.getfield 29, 3)), (12, (.iload_n 1, 1)), (13, (.if_icmp .ne 7, 3)), (16, (.iconst 1, 1)), (17, (.goto 4, 3)), (20, (.iconst 0, 1)), (21, (.ireturn, 1))]
theorem dsX12_isSign_0_ok : (dsX12_isSign_0.all fun q => decide (decode cX12_isSign q.1 = .ok q.2)) = true := by decide +kernel
theorem dX12_isSign_0 : decode cX12_isSign 0 = .ok (.aload_n 0, 1) := of_decide_eq_true (List.all_eq_true.mp dsX12_isSign_0_ok (0, (.aload_n 0, 1)) (List.mem_of_getElem? (i := 0) rfl))
theorem dX12_isSign_1 : decode cX12_isSign 1 = .ok (.getfield 20, 3) := of_decide_eq_true (List.all_eq_true.mp dsX12_isSign_0_ok (1, (.getfield 20, 3)) (List.mem_of_getElem? (i := 1) rfl))
theorem dX12_isSign_4 : decode cX12_isSign 4 = .ok (.iconst 3, 1) := of_decide_eq_true (List.all_eq_true.mp dsX12_isSign_0_ok (4, (.iconst 3, 1)) (List.mem_of_getElem? (i := 2) rfl))
theorem dX12_isSign_5 : decode cX12_isSign 5 = .ok (.if_icmp .ne 15, 3) := of_decide_eq_true (List.all_eq_true.mp dsX12_isSign_0_ok (5, (.if_icmp .ne 15, 3)) (List.mem_of_getElem? (i := 3) rfl))
theorem dX12_isSign_8 : decode cX12_isSign 8 = .ok (.aload_n 0, 1) := of_decide_eq_true (List.all_eq_true.mp dsX12_isSign_0_ok (8, (.aload_n 0, 1)) (List.mem_of_getElem? (i := 4) rfl))
theorem dX12_isSign_9 : decode cX12_isSign 9 = .ok (.getfield 29, 3) := of_decide_eq_true (List.all_eq_true.mp dsX12_isSign_0_ok (9, (.getfield 29, 3)) (List.mem_of_getElem? (i := 5) rfl))
theorem dX12_isSign_12 : decode cX12_isSign 12 = .ok (.iload_n 1, 1) := of_decide_eq_true (List.all_eq_true.mp dsX12_isSign_0_ok (12, (.iload_n 1, 1)) (List.mem_of_getElem? (i := 6) rfl))
theorem dX12_isSign_13 : decode cX12_isSign 13 = .ok (.if_icmp .ne 7, 3) := of_decide_eq_true (List.all_eq_true.mp dsX12_isSign_0_ok (13, (.if_icmp .ne 7, 3)) (List.mem_of_getElem? (i := 7) rfl))
theorem dX12_isSign_16 : decode cX12_isSign 16 = .ok (.iconst 1, 1) := of_decide_eq_true (List.all_eq_true.mp dsX12_isSign_0_ok (16, (.iconst 1, 1)) (List.mem_of_getElem? (i := 8) rfl))
theorem dX12_isSign_17 : decode cX12_isSign 17 = .ok (.goto 4, 3) := of_decide_eq_true (List.all_eq_true.mp dsX12_isSign_0_ok (17, (.goto 4, 3)) (List.mem_of_getElem? (i := 9) rfl))
theorem dX12_isSign_20 : decode cX12_isSign 20 = .ok (.iconst 0, 1) := of_decide_eq_true (List.all_eq_true.mp dsX12_isSign_0_ok (20, (.iconst 0, 1)) (List.mem_of_getElem? (i := 10) rfl))
theorem dX12_isSign_21 : decode cX12_isSign 21 = .ok (.ireturn, 1) := of_decide_eq_true (List.all_eq_true.mp dsX12_isSign_0_ok (21, (.ireturn, 1)) (List.mem_of_getElem? (i := 11) rfl))
def fX12_isSign (N : Nat) (mmI : Nat → Int32)  (p1 : Int32) : Option (Int32) :=
  (if (mmI 3) = 3 then (if (mmI 6) = p1 then some 1 else some 0) else some 0)
set_option maxHeartbeats 4000000 in
set_option maxRecDepth 100000 in
theorem kX12_isSign (l : Launch) (dC : Nat → ClassId) (dI : Nat → Nat → Nat) (cI cB cJ cZ cM : ClassId) (z : Nat) (ad : Nat → Nat) (N : Nat) (a_p0 : Nat) (mmI : Nat → Int32) (mmJ : Nat → Int64) (mmR : Nat → Nat) (p1 : Int32) {r0 : Int32} (hf : fX12_isSign N mmI p1 = some r0) : xq_Ct l yX12_isSign wsX12_isSign { frames := 0, cells := 0, slots := 0, locals := 0 } (dC, dI) vwCl (xq_tys cI cB cJ cZ cM) z ad [.ref a_p0, .int p1] [(a_p0, .inr (12, oX12 mmI mmJ mmR))] [(a_p0, .inr (12, oX12 mmI mmJ mmR))] (some (.int r0)) := by
  intro sz
  refine Met.ofW (cc := cX12_isSign) (maxL := 2) (ret := (some .boolean)) (by decide) rfl ?_
  intro p e s m args below meth c s₁ B hml hv
  obtain ⟨rfl, hsz, hP, hK, hD0, hE, hz⟩ := hv
  have hx := B.exec
  have hb := B.bytes
  have hr := B.returns
  have hts := atoms_spec (ws := wsX12_isSign) B.pre
  have hown : s.vm.findClass RX12 = some m.cls := findClass_of_methodNamed B.named
  have hlocks := B.notSynchronized
  subst hsz
  have hD := hD0.self (sz := s.heap.size)
  have hN := xq_Env.of hE hz hD0
  generalize hAe : va_A [(a_p0, .inr (12, oX12 mmI mmJ mmR))] s.heap.size = A at hD hN ⊢
  have hA : ∀ q : Nat, s.heap.size ≤ q → A q := fun q h => by rw [← hAe]; exact Or.inr h
  clear hAe hD0
  have hS : va_S A s.heap s.heap [] := va_S.rf
  have hl := lv_entry ([.ref a_p0, .int p1]) (n := 2) (Nat.le_of_ble_eq_true rfl)
  rw [lg_entry_eq]
  generalize (lg_sl ([.ref a_p0, .int p1]) ++ List.replicate (2 - (lg_sl ([.ref a_p0, .int p1])).length) Slot.unset).toArray = ls at hl ⊢
  have hl : lv_has ls 2 [(0, .ref a_p0), (1, .int p1)] := hl
  have hw0 := hts (.fieldLink RX12 20 "DistantVoiceModel" "sign" "I") (by decide +kernel)
  have hinX12 : ∀ w ∈ wsX120, w ∈ wsX12_isSign := fun w h => List.mem_cons_of_mem _ (List.mem_append_right _ h)
  have hw2 := hts (.fieldLink RX12 29 "DistantVoiceModel" "value" "I") (by decide +kernel)
  unfold fX12_isSign at hf
  refine lv_aload_n hx hb dX12_isSign_0 rfl (lv_at hl 0 rfl) ?_
  refine va_get (D := (dC, dI)) (ci := 12) (v := .int (mmI 3)) (C := RX12) (T := TX12) (N := 70) hx hb hts hinX12 hown hK hP 0 rfl rfl 3 (by decide) hw0 (fun _ h9 => h9) rfl dX12_isSign_1 ?_
  refine lv_iconst (v := 3) hx hb dX12_isSign_4 (by decide) ?_
  refine lv_icmp_ne (tgt := 20) hx hb dX12_isSign_5 (by decide) (fun c_ => ?_) (fun c_ => ?_)
  · have hf := xq_neg hf c_
    refine lv_iconst (v := 0) hx hb dX12_isSign_20 (by decide) ?_
    have hP9 := hP
    have hD9 := hD
    have hS9 := hS
    cases hf
    exact xq_zret hx hb hr (by decide +kernel) hlocks hK hP9 hD9 hS9 dX12_isSign_21
  · have hf := xq_pos hf c_
    refine lv_aload_n hx hb dX12_isSign_8 rfl (lv_at hl 0 rfl) ?_
    refine va_get (D := (dC, dI)) (ci := 12) (v := .int (mmI 6)) (C := RX12) (T := TX12) (N := 70) hx hb hts hinX12 hown hK hP 0 rfl rfl 6 (by decide) hw2 (fun _ h9 => h9) rfl dX12_isSign_9 ?_
    refine lv_iload_n hx hb dX12_isSign_12 rfl (lv_at hl 1 rfl) ?_
    refine lv_icmp_ne (tgt := 20) hx hb dX12_isSign_13 (by decide) (fun c_ => ?_) (fun c_ => ?_)
    · have hf := xq_neg hf c_
      refine lv_iconst (v := 0) hx hb dX12_isSign_20 (by decide) ?_
      have hP9 := hP
      have hD9 := hD
      have hS9 := hS
      cases hf
      exact xq_zret hx hb hr (by decide +kernel) hlocks hK hP9 hD9 hS9 dX12_isSign_21
    · have hf := xq_pos hf c_
      refine lv_iconst (v := 1) hx hb dX12_isSign_16 (by decide) ?_
      refine lv_goto (tgt := 21) hx hb dX12_isSign_17 (by decide) ?_
      have hP9 := hP
      have hD9 := hD
      have hS9 := hS
      cases hf
      exact xq_zret hx hb hr (by decide +kernel) hlocks hK hP9 hD9 hS9 dX12_isSign_21
def dsX12_isWord_0 : List (Nat × Instr × Nat) := [(0, (.aload_n 0, 1)), (1, (.getfield 20, 3)), (4, (.iconst 1, 1)), (5, (.if_icmp .ne 16, 3)), (8, (.aload_n 0, 1)), (9, (.getfield 32, 3)), (12, (.lload_n 1, 1)), (13, (.lcmp, 1)), (14, (.ifCond .ne 7, 3)), (17, (.iconst 1, 1)), (18, (.goto 4, 3)), (21, (.iconst 0, 1)), (22, (.ireturn, 1))]
theorem dsX12_isWord_0_ok : (dsX12_isWord_0.all fun q => decide (decode cX12_isWord q.1 = .ok q.2)) = true := by decide +kernel
theorem dX12_isWord_0 : decode cX12_isWord 0 = .ok (.aload_n 0, 1) := of_decide_eq_true (List.all_eq_true.mp dsX12_isWord_0_ok (0, (.aload_n 0, 1)) (List.mem_of_getElem? (i := 0) rfl))
theorem dX12_isWord_1 : decode cX12_isWord 1 = .ok (.getfield 20, 3) := of_decide_eq_true (List.all_eq_true.mp dsX12_isWord_0_ok (1, (.getfield 20, 3)) (List.mem_of_getElem? (i := 1) rfl))
theorem dX12_isWord_4 : decode cX12_isWord 4 = .ok (.iconst 1, 1) := of_decide_eq_true (List.all_eq_true.mp dsX12_isWord_0_ok (4, (.iconst 1, 1)) (List.mem_of_getElem? (i := 2) rfl))
theorem dX12_isWord_5 : decode cX12_isWord 5 = .ok (.if_icmp .ne 16, 3) := of_decide_eq_true (List.all_eq_true.mp dsX12_isWord_0_ok (5, (.if_icmp .ne 16, 3)) (List.mem_of_getElem? (i := 3) rfl))
theorem dX12_isWord_8 : decode cX12_isWord 8 = .ok (.aload_n 0, 1) := of_decide_eq_true (List.all_eq_true.mp dsX12_isWord_0_ok (8, (.aload_n 0, 1)) (List.mem_of_getElem? (i := 4) rfl))
theorem dX12_isWord_9 : decode cX12_isWord 9 = .ok (.getfield 32, 3) := of_decide_eq_true (List.all_eq_true.mp dsX12_isWord_0_ok (9, (.getfield 32, 3)) (List.mem_of_getElem? (i := 5) rfl))
theorem dX12_isWord_12 : decode cX12_isWord 12 = .ok (.lload_n 1, 1) := of_decide_eq_true (List.all_eq_true.mp dsX12_isWord_0_ok (12, (.lload_n 1, 1)) (List.mem_of_getElem? (i := 6) rfl))
theorem dX12_isWord_13 : decode cX12_isWord 13 = .ok (.lcmp, 1) := of_decide_eq_true (List.all_eq_true.mp dsX12_isWord_0_ok (13, (.lcmp, 1)) (List.mem_of_getElem? (i := 7) rfl))
theorem dX12_isWord_14 : decode cX12_isWord 14 = .ok (.ifCond .ne 7, 3) := of_decide_eq_true (List.all_eq_true.mp dsX12_isWord_0_ok (14, (.ifCond .ne 7, 3)) (List.mem_of_getElem? (i := 8) rfl))
theorem dX12_isWord_17 : decode cX12_isWord 17 = .ok (.iconst 1, 1) := of_decide_eq_true (List.all_eq_true.mp dsX12_isWord_0_ok (17, (.iconst 1, 1)) (List.mem_of_getElem? (i := 9) rfl))
theorem dX12_isWord_18 : decode cX12_isWord 18 = .ok (.goto 4, 3) := of_decide_eq_true (List.all_eq_true.mp dsX12_isWord_0_ok (18, (.goto 4, 3)) (List.mem_of_getElem? (i := 10) rfl))
theorem dX12_isWord_21 : decode cX12_isWord 21 = .ok (.iconst 0, 1) := of_decide_eq_true (List.all_eq_true.mp dsX12_isWord_0_ok (21, (.iconst 0, 1)) (List.mem_of_getElem? (i := 11) rfl))
theorem dX12_isWord_22 : decode cX12_isWord 22 = .ok (.ireturn, 1) := of_decide_eq_true (List.all_eq_true.mp dsX12_isWord_0_ok (22, (.ireturn, 1)) (List.mem_of_getElem? (i := 12) rfl))
def fX12_isWord (N : Nat) (mmI : Nat → Int32) (mmJ : Nat → Int64)  (p1 : Int64) : Option (Int32) :=
  (if (mmI 3) = 1 then (if (lg_cmp (mmJ 7) p1) = 0 then some 1 else some 0) else some 0)
set_option maxHeartbeats 4000000 in
set_option maxRecDepth 100000 in
theorem kX12_isWord (l : Launch) (dC : Nat → ClassId) (dI : Nat → Nat → Nat) (cI cB cJ cZ cM : ClassId) (z : Nat) (ad : Nat → Nat) (N : Nat) (a_p0 : Nat) (mmI : Nat → Int32) (mmJ : Nat → Int64) (mmR : Nat → Nat) (p1 : Int64) {r0 : Int32} (hf : fX12_isWord N mmI mmJ p1 = some r0) : xq_Ct l yX12_isWord wsX12_isWord { frames := 0, cells := 0, slots := 0, locals := 0 } (dC, dI) vwCl (xq_tys cI cB cJ cZ cM) z ad [.ref a_p0, .long p1] [(a_p0, .inr (12, oX12 mmI mmJ mmR))] [(a_p0, .inr (12, oX12 mmI mmJ mmR))] (some (.int r0)) := by
  intro sz
  refine Met.ofW (cc := cX12_isWord) (maxL := 3) (ret := (some .boolean)) (by decide) rfl ?_
  intro p e s m args below meth c s₁ B hml hv
  obtain ⟨rfl, hsz, hP, hK, hD0, hE, hz⟩ := hv
  have hx := B.exec
  have hb := B.bytes
  have hr := B.returns
  have hts := atoms_spec (ws := wsX12_isWord) B.pre
  have hown : s.vm.findClass RX12 = some m.cls := findClass_of_methodNamed B.named
  have hlocks := B.notSynchronized
  subst hsz
  have hD := hD0.self (sz := s.heap.size)
  have hN := xq_Env.of hE hz hD0
  generalize hAe : va_A [(a_p0, .inr (12, oX12 mmI mmJ mmR))] s.heap.size = A at hD hN ⊢
  have hA : ∀ q : Nat, s.heap.size ≤ q → A q := fun q h => by rw [← hAe]; exact Or.inr h
  clear hAe hD0
  have hS : va_S A s.heap s.heap [] := va_S.rf
  have hl := lv_entry ([.ref a_p0, .long p1]) (n := 3) (Nat.le_of_ble_eq_true rfl)
  rw [lg_entry_eq]
  generalize (lg_sl ([.ref a_p0, .long p1]) ++ List.replicate (3 - (lg_sl ([.ref a_p0, .long p1])).length) Slot.unset).toArray = ls at hl ⊢
  have hl : lv_has ls 3 [(0, .ref a_p0), (1, .long p1)] := hl
  have hw0 := hts (.fieldLink RX12 20 "DistantVoiceModel" "sign" "I") (by decide +kernel)
  have hinX12 : ∀ w ∈ wsX120, w ∈ wsX12_isWord := fun w h => List.mem_cons_of_mem _ (List.mem_append_right _ h)
  have hw2 := hts (.fieldLink RX12 32 "DistantVoiceModel" "word" "J") (by decide +kernel)
  unfold fX12_isWord at hf
  refine lv_aload_n hx hb dX12_isWord_0 rfl (lv_at hl 0 rfl) ?_
  refine va_get (D := (dC, dI)) (ci := 12) (v := .int (mmI 3)) (C := RX12) (T := TX12) (N := 70) hx hb hts hinX12 hown hK hP 0 rfl rfl 3 (by decide) hw0 (fun _ h9 => h9) rfl dX12_isWord_1 ?_
  refine lv_iconst (v := 1) hx hb dX12_isWord_4 (by decide) ?_
  refine lv_icmp_ne (tgt := 21) hx hb dX12_isWord_5 (by decide) (fun c_ => ?_) (fun c_ => ?_)
  · have hf := xq_neg hf c_
    refine lv_iconst (v := 0) hx hb dX12_isWord_21 (by decide) ?_
    have hP9 := hP
    have hD9 := hD
    have hS9 := hS
    cases hf
    exact xq_zret hx hb hr (by decide +kernel) hlocks hK hP9 hD9 hS9 dX12_isWord_22
  · have hf := xq_pos hf c_
    refine lv_aload_n hx hb dX12_isWord_8 rfl (lv_at hl 0 rfl) ?_
    refine va_get (D := (dC, dI)) (ci := 12) (v := .long (mmJ 7)) (C := RX12) (T := TX12) (N := 70) hx hb hts hinX12 hown hK hP 0 rfl rfl 7 (by decide) hw2 (fun _ h9 => h9) rfl dX12_isWord_9 ?_
    refine lv_lload_n hx hb dX12_isWord_12 rfl (lv_at hl 1 rfl) ?_
    refine W.lcmp hx hb dX12_isWord_13 ?_
    refine lv_if_ne (tgt := 21) hx hb dX12_isWord_14 (by decide) (fun c_ => ?_) (fun c_ => ?_)
    · have hf := xq_neg hf c_
      refine lv_iconst (v := 0) hx hb dX12_isWord_21 (by decide) ?_
      have hP9 := hP
      have hD9 := hD
      have hS9 := hS
      cases hf
      exact xq_zret hx hb hr (by decide +kernel) hlocks hK hP9 hD9 hS9 dX12_isWord_22
    · have hf := xq_pos hf c_
      refine lv_iconst (v := 1) hx hb dX12_isWord_17 (by decide) ?_
      refine lv_goto (tgt := 22) hx hb dX12_isWord_18 (by decide) ?_
      have hP9 := hP
      have hD9 := hD
      have hS9 := hS
      cases hf
      exact xq_zret hx hb hr (by decide +kernel) hlocks hK hP9 hD9 hS9 dX12_isWord_22
set_option maxRecDepth 20000 in
theorem ggX12_must_X12_lex : GoodIn wsX12_must wsX12_lex := goodIn_r _ [7, 8, 9, 10, 11, 6, 12, 2, 13, 34, 35, 36, 37, 38, 39, 40, 41, 42, 43, 44, 45, 46, 47, 48, 49, 50, 51, 52, 53, 54, 55, 56, 57, 58, 59, 60, 61, 62, 63, 64, 65, 66, 67, 68, 69, 70, 71, 72, 73, 74, 75, 76, 77, 78, 79, 80, 81, 82, 83, 84, 85, 86, 87, 88, 89, 90, 91, 92, 93, 94, 95, 96, 97, 98, 99, 100, 101, 102, 103] rfl (by decide +kernel)
set_option maxRecDepth 20000 in
theorem gX12_must_X12_lex : GoodIn wsX12_must (wsV RX12 244 RX12 yX12_lex wsX12_lex) := goodIn_app (goodIn_of _ (by decide +kernel)) ggX12_must_X12_lex
set_option maxRecDepth 20000 in
theorem ggX12_must_X12_isSign : GoodIn wsX12_must wsX12_isSign := goodIn_r _ [17, 18, 19, 34, 35, 36, 37, 38, 39, 40, 41, 42, 43, 44, 45, 46, 47, 48, 49, 50, 51, 52, 53, 54, 55, 56, 57, 58, 59, 60, 61, 62, 63, 64, 65, 66, 67, 68, 69, 70, 71, 72, 73, 74, 75, 76, 77, 78, 79, 80, 81, 82, 83, 84, 85, 86, 87, 88, 89, 90, 91, 92, 93, 94, 95, 96, 97, 98, 99, 100, 101, 102, 103] rfl (by decide +kernel)
set_option maxRecDepth 20000 in
theorem gX12_must_X12_isSign : GoodIn wsX12_must (wsV RX12 247 RX12 yX12_isSign wsX12_isSign) := goodIn_app (goodIn_of _ (by decide +kernel)) ggX12_must_X12_isSign
set_option maxRecDepth 20000 in
theorem ggX12_must_X12_blame : GoodIn wsX12_must wsX12_blame := goodIn_r _ [12, 2, 13, 34, 35, 36, 37, 38, 39, 40, 41, 42, 43, 44, 45, 46, 47, 48, 49, 50, 51, 52, 53, 54, 55, 56, 57, 58, 59, 60, 61, 62, 63, 64, 65, 66, 67, 68, 69, 70, 71, 72, 73, 74, 75, 76, 77, 78, 79, 80, 81, 82, 83, 84, 85, 86, 87, 88, 89, 90, 91, 92, 93, 94, 95, 96, 97, 98, 99, 100, 101, 102, 103] rfl (by decide +kernel)
set_option maxRecDepth 20000 in
theorem gX12_must_X12_blame : GoodIn wsX12_must (wsV RX12 233 RX12 yX12_blame wsX12_blame) := goodIn_app (goodIn_of _ (by decide +kernel)) ggX12_must_X12_blame
set_option maxRecDepth 20000 in
theorem ggX12_must_X12_ahead : GoodIn wsX12_must wsX12_ahead := goodIn_r _ [23, 24, 25, 26, 1, 18, 8, 19, 27, 28, 29, 6, 30, 31, 32, 33, 34, 35, 36, 37, 38, 39, 40, 41, 42, 43, 44, 45, 46, 47, 48, 49, 50, 51, 52, 53, 54, 55, 56, 57, 58, 59, 60, 61, 62, 63, 64, 65, 66, 67, 68, 69, 70, 71, 72, 73, 74, 75, 76, 77, 78, 79, 80, 81, 82, 83, 84, 85, 86, 87, 88, 89, 90, 91, 92, 93, 94, 95, 96, 97, 98, 99, 100, 101, 102, 103] rfl (by decide +kernel)
set_option maxRecDepth 20000 in
theorem gX12_must_X12_ahead : GoodIn wsX12_must (wsV RX12 250 RX12 yX12_ahead wsX12_ahead) := goodIn_app (goodIn_of _ (by decide +kernel)) ggX12_must_X12_ahead
def dsX12_must_0 : List (Nat × Instr × Nat) := [(0, (.aload_n 0, 1)), (1, (.invokevirtual 244, 3)), (4, (.aload_n 0, 1)), (5, (.iload_n 1, 1)), (6, (.invokevirtual 247, 3)), (9, (.ifCond .ne 12, 3)), (12, (.aload_n 0, 1)), (13, (.iconst 1, 1)), (14, (.aload_n 0, 1)), (15, (.getfield 23, 3)), (18, (.invokevirtual 233, 3)), (21, (.aload_n 0, 1)), (22, (.getfield 36, 3)), (25, (.ifCond .ne 7, 3)), (28, (.aload_n 0, 1)), (29, (.invokevirtual 250, 3)), (32, (.return_, 1))]
theorem dsX12_must_0_ok : (dsX12_must_0.all fun q => decide (decode cX12_must q.1 = .ok q.2)) = true := by decide +kernel
theorem dX12_must_0 : decode cX12_must 0 = .ok (.aload_n 0, 1) := of_decide_eq_true (List.all_eq_true.mp dsX12_must_0_ok (0, (.aload_n 0, 1)) (List.mem_of_getElem? (i := 0) rfl))
theorem dX12_must_1 : decode cX12_must 1 = .ok (.invokevirtual 244, 3) := of_decide_eq_true (List.all_eq_true.mp dsX12_must_0_ok (1, (.invokevirtual 244, 3)) (List.mem_of_getElem? (i := 1) rfl))
theorem dX12_must_4 : decode cX12_must 4 = .ok (.aload_n 0, 1) := of_decide_eq_true (List.all_eq_true.mp dsX12_must_0_ok (4, (.aload_n 0, 1)) (List.mem_of_getElem? (i := 2) rfl))
theorem dX12_must_5 : decode cX12_must 5 = .ok (.iload_n 1, 1) := of_decide_eq_true (List.all_eq_true.mp dsX12_must_0_ok (5, (.iload_n 1, 1)) (List.mem_of_getElem? (i := 3) rfl))
theorem dX12_must_6 : decode cX12_must 6 = .ok (.invokevirtual 247, 3) := of_decide_eq_true (List.all_eq_true.mp dsX12_must_0_ok (6, (.invokevirtual 247, 3)) (List.mem_of_getElem? (i := 4) rfl))
theorem dX12_must_9 : decode cX12_must 9 = .ok (.ifCond .ne 12, 3) := of_decide_eq_true (List.all_eq_true.mp dsX12_must_0_ok (9, (.ifCond .ne 12, 3)) (List.mem_of_getElem? (i := 5) rfl))
theorem dX12_must_12 : decode cX12_must 12 = .ok (.aload_n 0, 1) := of_decide_eq_true (List.all_eq_true.mp dsX12_must_0_ok (12, (.aload_n 0, 1)) (List.mem_of_getElem? (i := 6) rfl))
theorem dX12_must_13 : decode cX12_must 13 = .ok (.iconst 1, 1) := of_decide_eq_true (List.all_eq_true.mp dsX12_must_0_ok (13, (.iconst 1, 1)) (List.mem_of_getElem? (i := 7) rfl))
theorem dX12_must_14 : decode cX12_must 14 = .ok (.aload_n 0, 1) := of_decide_eq_true (List.all_eq_true.mp dsX12_must_0_ok (14, (.aload_n 0, 1)) (List.mem_of_getElem? (i := 8) rfl))
theorem dX12_must_15 : decode cX12_must 15 = .ok (.getfield 23, 3) := of_decide_eq_true (List.all_eq_true.mp dsX12_must_0_ok (15, (.getfield 23, 3)) (List.mem_of_getElem? (i := 9) rfl))
theorem dX12_must_18 : decode cX12_must 18 = .ok (.invokevirtual 233, 3) := of_decide_eq_true (List.all_eq_true.mp dsX12_must_0_ok (18, (.invokevirtual 233, 3)) (List.mem_of_getElem? (i := 10) rfl))
theorem dX12_must_21 : decode cX12_must 21 = .ok (.aload_n 0, 1) := of_decide_eq_true (List.all_eq_true.mp dsX12_must_0_ok (21, (.aload_n 0, 1)) (List.mem_of_getElem? (i := 11) rfl))
theorem dX12_must_22 : decode cX12_must 22 = .ok (.getfield 36, 3) := of_decide_eq_true (List.all_eq_true.mp dsX12_must_0_ok (22, (.getfield 36, 3)) (List.mem_of_getElem? (i := 12) rfl))
theorem dX12_must_25 : decode cX12_must 25 = .ok (.ifCond .ne 7, 3) := of_decide_eq_true (List.all_eq_true.mp dsX12_must_0_ok (25, (.ifCond .ne 7, 3)) (List.mem_of_getElem? (i := 13) rfl))
theorem dX12_must_28 : decode cX12_must 28 = .ok (.aload_n 0, 1) := of_decide_eq_true (List.all_eq_true.mp dsX12_must_0_ok (28, (.aload_n 0, 1)) (List.mem_of_getElem? (i := 14) rfl))
theorem dX12_must_29 : decode cX12_must 29 = .ok (.invokevirtual 250, 3) := of_decide_eq_true (List.all_eq_true.mp dsX12_must_0_ok (29, (.invokevirtual 250, 3)) (List.mem_of_getElem? (i := 15) rfl))
theorem dX12_must_32 : decode cX12_must 32 = .ok (.return_, 1) := of_decide_eq_true (List.all_eq_true.mp dsX12_must_0_ok (32, (.return_, 1)) (List.mem_of_getElem? (i := 16) rfl))
def fX12_must_b21 (N : Nat) (mm_tapeF : Nat → Int32)   : ((Nat → Int32) × (Nat → Int64)) → Option ((Nat → Int32) × (Nat → Int64)) :=
  fun (mmI_21, mmJ_21) => (if (mmI_21 8) = 0 then (xq_bd (fX12_ahead N mmI_21 mmJ_21 mm_tapeF) fun (r_1_0, r_1_1) => some ((r_1_0, r_1_1))) else some ((mmI_21, mmJ_21)))
def fX12_must (N : Nat) (mmI : Nat → Int32) (mmJ : Nat → Int64) (mm_tapeF : Nat → Int32)  (p1 : Int32) : Option ((Nat → Int32) × (Nat → Int64)) :=
  (xq_bd (fX12_lex N mmI) fun r_1 => (xq_bd (fX12_isSign N r_1 p1) fun r_3 => (if r_3 = 0 then (xq_bd (fX12_blame N r_1 1 (r_1 4)) fun r_5 => fX12_must_b21 N mm_tapeF (r_5, mmJ)) else fX12_must_b21 N mm_tapeF (r_1, mmJ))))
set_option maxHeartbeats 4000000 in
set_option maxRecDepth 100000 in
theorem kX12_must (l : Launch) (dC : Nat → ClassId) (dI : Nat → Nat → Nat) (cI cB cJ cZ cM : ClassId) (z : Nat) (ad : Nat → Nat) (N : Nat) (a_p0 : Nat) (mmI : Nat → Int32) (mmJ : Nat → Int64) (mmR : Nat → Nat) (mm_tapeF : Nat → Int32) (p1 : Int32) {r0 : Nat → Int32} {r1 : Nat → Int64} (hf : fX12_must N mmI mmJ mm_tapeF p1 = some (r0, r1)) : xq_Ct l yX12_must wsX12_must { frames := 2, cells := 0, slots := 0, locals := 45 } (dC, dI) vwCl (xq_tys cI cB cJ cZ cM) z ad [.ref a_p0, .int p1] [(a_p0, .inr (12, oX12 mmI mmJ mmR)), ((mmR 0), .inl (cI, 1800, .inl mm_tapeF))] [(a_p0, .inr (12, oX12 r0 r1 mmR)), ((mmR 0), .inl (cI, 1800, .inl mm_tapeF))] none := by
  intro sz
  refine Met.ofW (cc := cX12_must) (maxL := 2) (ret := none) (by decide) rfl ?_
  intro p e s m args below meth c s₁ B hml hv
  obtain ⟨rfl, hsz, hP, hK, hD0, hE, hz⟩ := hv
  have hx := B.exec
  have hb := B.bytes
  have hr := B.returns
  have hts := atoms_spec (ws := wsX12_must) B.pre
  have hown : s.vm.findClass RX12 = some m.cls := findClass_of_methodNamed B.named
  have hlocks := B.notSynchronized
  subst hsz
  have hD := hD0.self (sz := s.heap.size)
  have hN := xq_Env.of hE hz hD0
  generalize hAe : va_A [(a_p0, .inr (12, oX12 mmI mmJ mmR)), ((mmR 0), .inl (cI, 1800, .inl mm_tapeF))] s.heap.size = A at hD hN ⊢
  have hA : ∀ q : Nat, s.heap.size ≤ q → A q := fun q h => by rw [← hAe]; exact Or.inr h
  clear hAe hD0
  have hS : va_S A s.heap s.heap [] := va_S.rf
  have hl := lv_entry ([.ref a_p0, .int p1]) (n := 2) (Nat.le_of_ble_eq_true rfl)
  rw [lg_entry_eq]
  generalize (lg_sl ([.ref a_p0, .int p1]) ++ List.replicate (2 - (lg_sl ([.ref a_p0, .int p1])).length) Slot.unset).toArray = ls at hl ⊢
  have hl : lv_has ls 2 [(0, .ref a_p0), (1, .int p1)] := hl
  have hw0 := hts (.fieldLink RX12 23 "DistantVoiceModel" "signAt" "I") (by decide +kernel)
  have hinX12 : ∀ w ∈ wsX120, w ∈ wsX12_must := fun w h => List.mem_cons_of_mem _ (List.mem_append_right _ h)
  have hw2 := hts (.fieldLink RX12 36 "DistantVoiceModel" "faultKind" "I") (by decide +kernel)
  have b21 : ∀ (mmI_21 : Nat → Int32) (mmJ_21 : Nat → Int64) (ls : Array Slot) (H : Heap) (locs : List Loc), fX12_must_b21 N mm_tapeF (mmI_21, mmJ_21) = some (r0, r1) → va_P (dC, dI) vwCl [(a_p0, .inr (12, oX12 mmI_21 mmJ_21 mmR)), ((mmR 0), .inl (cI, 1800, .inl mm_tapeF))] H → va_D A [(a_p0, .inr (12, oX12 mmI_21 mmJ_21 mmR)), ((mmR 0), .inl (cI, 1800, .inl mm_tapeF))] → va_S A s.heap H locs → lv_has ls 2 [(0, .ref a_p0)] → W p l e (headSpec wsX12_must { frames := 2, cells := 0, slots := 0, locals := 45 }).room s m [.ref a_p0, .int p1].toArray below meth c H locs 0 0 (MQ below (xq_Q (dC, dI) vwCl (xq_tys cI cB cJ cZ cM) A [(a_p0, .inr (12, oX12 r0 r1 mmR)), ((mmR 0), .inl (cI, 1800, .inl mm_tapeF))] none) [.ref a_p0, .int p1].toArray s 0 0 A) (F0 m 21 ls []) := by
    intro mmI_21 mmJ_21 ls H locs hf hP hD hS hl
    unfold fX12_must_b21 at hf
    refine lv_aload_n hx hb dX12_must_21 rfl (lv_at hl 0 rfl) ?_
    refine va_get (D := (dC, dI)) (ci := 12) (v := .int (mmI_21 8)) (C := RX12) (T := TX12) (N := 70) hx hb hts hinX12 hown hK hP 0 rfl rfl 8 (by decide) hw2 (fun _ h9 => h9) rfl dX12_must_22 ?_
    refine lv_if_ne (tgt := 32) hx hb dX12_must_25 (by decide) (fun c_ => ?_) (fun c_ => ?_)
    · have hf := xq_neg hf c_
      have hP9 := hP
      have hD9 := hD
      have hS9 := hS
      cases hf
      exact xq_vret hx hb hr hlocks hK hP9 hD9 hS9 dX12_must_32
    · have hf := xq_pos hf c_
      refine lv_aload_n hx hb dX12_must_28 rfl (lv_at hl 0 rfl) ?_
      obtain ⟨⟨r_1_0, r_1_1⟩, h_2, hf⟩ := xq_bd_some hf
      refine xq_callV (As := []) (rest := []) (ci := 12) (q0 := 0) ⟨hx, hb, hml, hown, hts⟩ (kX12_ahead l dC dI cI cB cJ cZ cM z ad N a_p0 mmI_21 mmJ_21 mmR mm_tapeF h_2) (cwV 0 hts gX12_must_X12_ahead rfl rfl rfl (by decide +kernel) ⟨Nat.le_of_ble_eq_true rfl, Nat.le_of_ble_eq_true rfl⟩) hN hK hP hD hS hA [0, 1] (by decide) rfl rfl rfl rfl rfl rfl hl.1 rfl (Nat.le_of_ble_eq_true rfl) dX12_must_29 ⟨Nat.zero_le _, Nat.zero_le _⟩ (fun H locs hP hD hS => ?_)
      have hP : va_P (dC, dI) vwCl [(a_p0, .inr (12, oX12 r_1_0 r_1_1 mmR)), ((mmR 0), .inl (cI, 1800, .inl mm_tapeF))] H := hP
      have hD : va_D A [(a_p0, .inr (12, oX12 r_1_0 r_1_1 mmR)), ((mmR 0), .inl (cI, 1800, .inl mm_tapeF))] := hD
      refine W.eq (g2 := F0 m 32 ls []) rfl ?_
      have hP9 := hP
      have hD9 := hD
      have hS9 := hS
      cases hf
      exact xq_vret hx hb hr hlocks hK hP9 hD9 hS9 dX12_must_32
  unfold fX12_must at hf
  refine lv_aload_n hx hb dX12_must_0 rfl (lv_at hl 0 rfl) ?_
  obtain ⟨r_1, h_2, hf⟩ := xq_bd_some hf
  refine xq_callV (As := []) (rest := []) (ci := 12) (q0 := 0) ⟨hx, hb, hml, hown, hts⟩ (kX12_lex l dC dI cI cB cJ cZ cM z ad N a_p0 mmI mmJ mmR h_2) (cwV 0 hts gX12_must_X12_lex rfl rfl rfl (by decide +kernel) ⟨Nat.le_of_ble_eq_true rfl, Nat.le_of_ble_eq_true rfl⟩) hN hK hP hD hS hA [0] (by decide) rfl rfl rfl rfl rfl rfl hl.1 rfl (Nat.le_of_ble_eq_true rfl) dX12_must_1 ⟨Nat.zero_le _, Nat.zero_le _⟩ (fun H locs hP hD hS => ?_)
  have hP : va_P (dC, dI) vwCl [(a_p0, .inr (12, oX12 r_1 mmJ mmR)), ((mmR 0), .inl (cI, 1800, .inl mm_tapeF))] H := hP
  have hD : va_D A [(a_p0, .inr (12, oX12 r_1 mmJ mmR)), ((mmR 0), .inl (cI, 1800, .inl mm_tapeF))] := hD
  refine W.eq (g2 := F0 m 4 ls []) rfl ?_
  refine lv_aload_n hx hb dX12_must_4 rfl (lv_at hl 0 rfl) ?_
  refine lv_iload_n hx hb dX12_must_5 rfl (lv_at hl 1 rfl) ?_
  obtain ⟨r_3, h_4, hf⟩ := xq_bd_some hf
  refine xq_callV (As := [.int p1]) (rest := []) (ci := 12) (q0 := 0) ⟨hx, hb, hml, hown, hts⟩ (kX12_isSign l dC dI cI cB cJ cZ cM z ad N a_p0 r_1 mmJ mmR p1 h_4) (cwV 1 hts gX12_must_X12_isSign rfl rfl rfl (by decide +kernel) ⟨Nat.le_of_ble_eq_true rfl, Nat.le_of_ble_eq_true rfl⟩) hN hK hP hD hS hA [0] (by decide) rfl rfl rfl rfl rfl rfl hl.1 rfl (Nat.le_of_ble_eq_true rfl) dX12_must_6 ⟨Nat.zero_le _, Nat.zero_le _⟩ (fun H locs hP hD hS => ?_)
  have hP : va_P (dC, dI) vwCl [(a_p0, .inr (12, oX12 r_1 mmJ mmR)), ((mmR 0), .inl (cI, 1800, .inl mm_tapeF))] H := hP
  have hD : va_D A [(a_p0, .inr (12, oX12 r_1 mmJ mmR)), ((mmR 0), .inl (cI, 1800, .inl mm_tapeF))] := hD
  refine W.eq (g2 := F0 m 9 ls [.int r_3]) rfl ?_
  refine lv_if_ne (tgt := 21) hx hb dX12_must_9 (by decide) (fun c_ => ?_) (fun c_ => ?_)
  · have hf := xq_neg hf c_
    exact b21 r_1 mmJ _ _ _ hf hP hD hS (lv_sub hl [0] rfl)
  · have hf := xq_pos hf c_
    refine lv_aload_n hx hb dX12_must_12 rfl (lv_at hl 0 rfl) ?_
    refine lv_iconst (v := 1) hx hb dX12_must_13 (by decide) ?_
    refine lv_aload_n hx hb dX12_must_14 rfl (lv_at hl 0 rfl) ?_
    refine va_get (D := (dC, dI)) (ci := 12) (v := .int (r_1 4)) (C := RX12) (T := TX12) (N := 70) hx hb hts hinX12 hown hK hP 0 rfl rfl 4 (by decide) hw0 (fun _ h9 => h9) rfl dX12_must_15 ?_
    obtain ⟨r_5, h_6, hf⟩ := xq_bd_some hf
    refine xq_callV (As := [.int 1, .int (r_1 4)]) (rest := []) (ci := 12) (q0 := 0) ⟨hx, hb, hml, hown, hts⟩ (kX12_blame l dC dI cI cB cJ cZ cM z ad N a_p0 r_1 mmJ mmR 1 (r_1 4) h_6) (cwV 2 hts gX12_must_X12_blame rfl rfl rfl (by decide +kernel) ⟨Nat.le_of_ble_eq_true rfl, Nat.le_of_ble_eq_true rfl⟩) hN hK hP hD hS hA [0] (by decide) rfl rfl rfl rfl rfl rfl hl.1 rfl (Nat.le_of_ble_eq_true rfl) dX12_must_18 ⟨Nat.zero_le _, Nat.zero_le _⟩ (fun H locs hP hD hS => ?_)
    have hP : va_P (dC, dI) vwCl [(a_p0, .inr (12, oX12 r_5 mmJ mmR)), ((mmR 0), .inl (cI, 1800, .inl mm_tapeF))] H := hP
    have hD : va_D A [(a_p0, .inr (12, oX12 r_5 mmJ mmR)), ((mmR 0), .inl (cI, 1800, .inl mm_tapeF))] := hD
    refine W.eq (g2 := F0 m 21 ls []) rfl ?_
    exact b21 r_5 mmJ _ _ _ hf hP hD hS (lv_sub hl [0] rfl)
def dsX12_isOwn_0 : List (Nat × Instr × Nat) := [(0, (.lload_n 1, 1)), (1, (.ldc2_w 253, 3)), (4, (.lcmp, 1)), (5, (.ifCond .eq 35, 3)), (8, (.lload_n 1, 1)), (9, (.ldc2_w 255, 3)), (12, (.lcmp, 1)), (13, (.ifCond .eq 27, 3)), (16, (.lload_n 1, 1)), (17, (.ldc2_w 257, 3)), (20, (.lcmp, 1)), (21, (.ifCond .eq 19, 3)), (24, (.lload_n 1, 1)), (25, (.ldc2_w 259, 3)), (28, (.lcmp, 1)), (29, (.ifCond .eq 11, 3)), (32, (.lload_n 1, 1)), (33, (.ldc2_w 261, 3)), (36, (.lcmp, 1)), (37, (.ifCond .ne 5, 3)), (40, (.iconst 1, 1)), (41, (.ireturn, 1)), (42, (.lload_n 1, 1)), (43, (.ldc2_w 263, 3)), (46, (.lcmp, 1)), (47, (.ifCond .eq 35, 3)), (50, (.lload_n 1, 1)), (51, (.ldc2_w 265, 3)), (54, (.lcmp, 1)), (55, (.ifCond .eq 27, 3)), (58, (.lload_n 1, 1)), (59, (.ldc2_w 267, 3)), (62, (.lcmp, 1)), (63, (.ifCond .eq 19, 3)), (66, (.lload_n 1, 1)), (67, (.ldc2_w 269, 3)), (70, (.lcmp, 1)), (71, (.ifCond .eq 11, 3)), (74, (.lload_n 1, 1)), (75, (.ldc2_w 271, 3)), (78, (.lcmp, 1)), (79, (.ifCond .ne 5, 3)), (82, (.iconst 1, 1)), (83, (.ireturn, 1)), (84, (.lload_n 1, 1)), (85, (.ldc2_w 273, 3)), (88, (.lcmp, 1)), (89, (.ifCond .eq 35, 3)), (92, (.lload_n 1, 1)), (93, (.ldc2_w 275, 3)), (96, (.lcmp, 1)), (97, (.ifCond .eq 27, 3)), (100, (.lload_n 1, 1)), (101, (.ldc2_w 277, 3)), (104, (.lcmp, 1)), (105, (.ifCond .eq 19, 3)), (108, (.lload_n 1, 1)), (109, (.ldc2_w 279, 3)), (112, (.lcmp, 1)), (113, (.ifCond .eq 11, 3))]
theorem dsX12_isOwn_0_ok : (dsX12_isOwn_0.all fun q => decide (decode cX12_isOwn q.1 = .ok q.2)) = true := by decide +kernel
theorem dX12_isOwn_0 : decode cX12_isOwn 0 = .ok (.lload_n 1, 1) := of_decide_eq_true (List.all_eq_true.mp dsX12_isOwn_0_ok (0, (.lload_n 1, 1)) (List.mem_of_getElem? (i := 0) rfl))
theorem dX12_isOwn_1 : decode cX12_isOwn 1 = .ok (.ldc2_w 253, 3) := of_decide_eq_true (List.all_eq_true.mp dsX12_isOwn_0_ok (1, (.ldc2_w 253, 3)) (List.mem_of_getElem? (i := 1) rfl))
theorem dX12_isOwn_4 : decode cX12_isOwn 4 = .ok (.lcmp, 1) := of_decide_eq_true (List.all_eq_true.mp dsX12_isOwn_0_ok (4, (.lcmp, 1)) (List.mem_of_getElem? (i := 2) rfl))
theorem dX12_isOwn_5 : decode cX12_isOwn 5 = .ok (.ifCond .eq 35, 3) := of_decide_eq_true (List.all_eq_true.mp dsX12_isOwn_0_ok (5, (.ifCond .eq 35, 3)) (List.mem_of_getElem? (i := 3) rfl))
theorem dX12_isOwn_8 : decode cX12_isOwn 8 = .ok (.lload_n 1, 1) := of_decide_eq_true (List.all_eq_true.mp dsX12_isOwn_0_ok (8, (.lload_n 1, 1)) (List.mem_of_getElem? (i := 4) rfl))
theorem dX12_isOwn_9 : decode cX12_isOwn 9 = .ok (.ldc2_w 255, 3) := of_decide_eq_true (List.all_eq_true.mp dsX12_isOwn_0_ok (9, (.ldc2_w 255, 3)) (List.mem_of_getElem? (i := 5) rfl))
theorem dX12_isOwn_12 : decode cX12_isOwn 12 = .ok (.lcmp, 1) := of_decide_eq_true (List.all_eq_true.mp dsX12_isOwn_0_ok (12, (.lcmp, 1)) (List.mem_of_getElem? (i := 6) rfl))
theorem dX12_isOwn_13 : decode cX12_isOwn 13 = .ok (.ifCond .eq 27, 3) := of_decide_eq_true (List.all_eq_true.mp dsX12_isOwn_0_ok (13, (.ifCond .eq 27, 3)) (List.mem_of_getElem? (i := 7) rfl))
theorem dX12_isOwn_16 : decode cX12_isOwn 16 = .ok (.lload_n 1, 1) := of_decide_eq_true (List.all_eq_true.mp dsX12_isOwn_0_ok (16, (.lload_n 1, 1)) (List.mem_of_getElem? (i := 8) rfl))
theorem dX12_isOwn_17 : decode cX12_isOwn 17 = .ok (.ldc2_w 257, 3) := of_decide_eq_true (List.all_eq_true.mp dsX12_isOwn_0_ok (17, (.ldc2_w 257, 3)) (List.mem_of_getElem? (i := 9) rfl))
theorem dX12_isOwn_20 : decode cX12_isOwn 20 = .ok (.lcmp, 1) := of_decide_eq_true (List.all_eq_true.mp dsX12_isOwn_0_ok (20, (.lcmp, 1)) (List.mem_of_getElem? (i := 10) rfl))
theorem dX12_isOwn_21 : decode cX12_isOwn 21 = .ok (.ifCond .eq 19, 3) := of_decide_eq_true (List.all_eq_true.mp dsX12_isOwn_0_ok (21, (.ifCond .eq 19, 3)) (List.mem_of_getElem? (i := 11) rfl))
theorem dX12_isOwn_24 : decode cX12_isOwn 24 = .ok (.lload_n 1, 1) := of_decide_eq_true (List.all_eq_true.mp dsX12_isOwn_0_ok (24, (.lload_n 1, 1)) (List.mem_of_getElem? (i := 12) rfl))
theorem dX12_isOwn_25 : decode cX12_isOwn 25 = .ok (.ldc2_w 259, 3) := of_decide_eq_true (List.all_eq_true.mp dsX12_isOwn_0_ok (25, (.ldc2_w 259, 3)) (List.mem_of_getElem? (i := 13) rfl))
theorem dX12_isOwn_28 : decode cX12_isOwn 28 = .ok (.lcmp, 1) := of_decide_eq_true (List.all_eq_true.mp dsX12_isOwn_0_ok (28, (.lcmp, 1)) (List.mem_of_getElem? (i := 14) rfl))
theorem dX12_isOwn_29 : decode cX12_isOwn 29 = .ok (.ifCond .eq 11, 3) := of_decide_eq_true (List.all_eq_true.mp dsX12_isOwn_0_ok (29, (.ifCond .eq 11, 3)) (List.mem_of_getElem? (i := 15) rfl))
theorem dX12_isOwn_32 : decode cX12_isOwn 32 = .ok (.lload_n 1, 1) := of_decide_eq_true (List.all_eq_true.mp dsX12_isOwn_0_ok (32, (.lload_n 1, 1)) (List.mem_of_getElem? (i := 16) rfl))
theorem dX12_isOwn_33 : decode cX12_isOwn 33 = .ok (.ldc2_w 261, 3) := of_decide_eq_true (List.all_eq_true.mp dsX12_isOwn_0_ok (33, (.ldc2_w 261, 3)) (List.mem_of_getElem? (i := 17) rfl))
theorem dX12_isOwn_36 : decode cX12_isOwn 36 = .ok (.lcmp, 1) := of_decide_eq_true (List.all_eq_true.mp dsX12_isOwn_0_ok (36, (.lcmp, 1)) (List.mem_of_getElem? (i := 18) rfl))
theorem dX12_isOwn_37 : decode cX12_isOwn 37 = .ok (.ifCond .ne 5, 3) := of_decide_eq_true (List.all_eq_true.mp dsX12_isOwn_0_ok (37, (.ifCond .ne 5, 3)) (List.mem_of_getElem? (i := 19) rfl))
theorem dX12_isOwn_40 : decode cX12_isOwn 40 = .ok (.iconst 1, 1) := of_decide_eq_true (List.all_eq_true.mp dsX12_isOwn_0_ok (40, (.iconst 1, 1)) (List.mem_of_getElem? (i := 20) rfl))
theorem dX12_isOwn_41 : decode cX12_isOwn 41 = .ok (.ireturn, 1) := of_decide_eq_true (List.all_eq_true.mp dsX12_isOwn_0_ok (41, (.ireturn, 1)) (List.mem_of_getElem? (i := 21) rfl))
theorem dX12_isOwn_42 : decode cX12_isOwn 42 = .ok (.lload_n 1, 1) := of_decide_eq_true (List.all_eq_true.mp dsX12_isOwn_0_ok (42, (.lload_n 1, 1)) (List.mem_of_getElem? (i := 22) rfl))
theorem dX12_isOwn_43 : decode cX12_isOwn 43 = .ok (.ldc2_w 263, 3) := of_decide_eq_true (List.all_eq_true.mp dsX12_isOwn_0_ok (43, (.ldc2_w 263, 3)) (List.mem_of_getElem? (i := 23) rfl))
theorem dX12_isOwn_46 : decode cX12_isOwn 46 = .ok (.lcmp, 1) := of_decide_eq_true (List.all_eq_true.mp dsX12_isOwn_0_ok (46, (.lcmp, 1)) (List.mem_of_getElem? (i := 24) rfl))
theorem dX12_isOwn_47 : decode cX12_isOwn 47 = .ok (.ifCond .eq 35, 3) := of_decide_eq_true (List.all_eq_true.mp dsX12_isOwn_0_ok (47, (.ifCond .eq 35, 3)) (List.mem_of_getElem? (i := 25) rfl))
theorem dX12_isOwn_50 : decode cX12_isOwn 50 = .ok (.lload_n 1, 1) := of_decide_eq_true (List.all_eq_true.mp dsX12_isOwn_0_ok (50, (.lload_n 1, 1)) (List.mem_of_getElem? (i := 26) rfl))
theorem dX12_isOwn_51 : decode cX12_isOwn 51 = .ok (.ldc2_w 265, 3) := of_decide_eq_true (List.all_eq_true.mp dsX12_isOwn_0_ok (51, (.ldc2_w 265, 3)) (List.mem_of_getElem? (i := 27) rfl))
theorem dX12_isOwn_54 : decode cX12_isOwn 54 = .ok (.lcmp, 1) := of_decide_eq_true (List.all_eq_true.mp dsX12_isOwn_0_ok (54, (.lcmp, 1)) (List.mem_of_getElem? (i := 28) rfl))
theorem dX12_isOwn_55 : decode cX12_isOwn 55 = .ok (.ifCond .eq 27, 3) := of_decide_eq_true (List.all_eq_true.mp dsX12_isOwn_0_ok (55, (.ifCond .eq 27, 3)) (List.mem_of_getElem? (i := 29) rfl))
theorem dX12_isOwn_58 : decode cX12_isOwn 58 = .ok (.lload_n 1, 1) := of_decide_eq_true (List.all_eq_true.mp dsX12_isOwn_0_ok (58, (.lload_n 1, 1)) (List.mem_of_getElem? (i := 30) rfl))
theorem dX12_isOwn_59 : decode cX12_isOwn 59 = .ok (.ldc2_w 267, 3) := of_decide_eq_true (List.all_eq_true.mp dsX12_isOwn_0_ok (59, (.ldc2_w 267, 3)) (List.mem_of_getElem? (i := 31) rfl))
theorem dX12_isOwn_62 : decode cX12_isOwn 62 = .ok (.lcmp, 1) := of_decide_eq_true (List.all_eq_true.mp dsX12_isOwn_0_ok (62, (.lcmp, 1)) (List.mem_of_getElem? (i := 32) rfl))
theorem dX12_isOwn_63 : decode cX12_isOwn 63 = .ok (.ifCond .eq 19, 3) := of_decide_eq_true (List.all_eq_true.mp dsX12_isOwn_0_ok (63, (.ifCond .eq 19, 3)) (List.mem_of_getElem? (i := 33) rfl))
theorem dX12_isOwn_66 : decode cX12_isOwn 66 = .ok (.lload_n 1, 1) := of_decide_eq_true (List.all_eq_true.mp dsX12_isOwn_0_ok (66, (.lload_n 1, 1)) (List.mem_of_getElem? (i := 34) rfl))
theorem dX12_isOwn_67 : decode cX12_isOwn 67 = .ok (.ldc2_w 269, 3) := of_decide_eq_true (List.all_eq_true.mp dsX12_isOwn_0_ok (67, (.ldc2_w 269, 3)) (List.mem_of_getElem? (i := 35) rfl))
theorem dX12_isOwn_70 : decode cX12_isOwn 70 = .ok (.lcmp, 1) := of_decide_eq_true (List.all_eq_true.mp dsX12_isOwn_0_ok (70, (.lcmp, 1)) (List.mem_of_getElem? (i := 36) rfl))
theorem dX12_isOwn_71 : decode cX12_isOwn 71 = .ok (.ifCond .eq 11, 3) := of_decide_eq_true (List.all_eq_true.mp dsX12_isOwn_0_ok (71, (.ifCond .eq 11, 3)) (List.mem_of_getElem? (i := 37) rfl))
theorem dX12_isOwn_74 : decode cX12_isOwn 74 = .ok (.lload_n 1, 1) := of_decide_eq_true (List.all_eq_true.mp dsX12_isOwn_0_ok (74, (.lload_n 1, 1)) (List.mem_of_getElem? (i := 38) rfl))
theorem dX12_isOwn_75 : decode cX12_isOwn 75 = .ok (.ldc2_w 271, 3) := of_decide_eq_true (List.all_eq_true.mp dsX12_isOwn_0_ok (75, (.ldc2_w 271, 3)) (List.mem_of_getElem? (i := 39) rfl))
theorem dX12_isOwn_78 : decode cX12_isOwn 78 = .ok (.lcmp, 1) := of_decide_eq_true (List.all_eq_true.mp dsX12_isOwn_0_ok (78, (.lcmp, 1)) (List.mem_of_getElem? (i := 40) rfl))
theorem dX12_isOwn_79 : decode cX12_isOwn 79 = .ok (.ifCond .ne 5, 3) := of_decide_eq_true (List.all_eq_true.mp dsX12_isOwn_0_ok (79, (.ifCond .ne 5, 3)) (List.mem_of_getElem? (i := 41) rfl))
theorem dX12_isOwn_82 : decode cX12_isOwn 82 = .ok (.iconst 1, 1) := of_decide_eq_true (List.all_eq_true.mp dsX12_isOwn_0_ok (82, (.iconst 1, 1)) (List.mem_of_getElem? (i := 42) rfl))
theorem dX12_isOwn_83 : decode cX12_isOwn 83 = .ok (.ireturn, 1) := of_decide_eq_true (List.all_eq_true.mp dsX12_isOwn_0_ok (83, (.ireturn, 1)) (List.mem_of_getElem? (i := 43) rfl))
theorem dX12_isOwn_84 : decode cX12_isOwn 84 = .ok (.lload_n 1, 1) := of_decide_eq_true (List.all_eq_true.mp dsX12_isOwn_0_ok (84, (.lload_n 1, 1)) (List.mem_of_getElem? (i := 44) rfl))
theorem dX12_isOwn_85 : decode cX12_isOwn 85 = .ok (.ldc2_w 273, 3) := of_decide_eq_true (List.all_eq_true.mp dsX12_isOwn_0_ok (85, (.ldc2_w 273, 3)) (List.mem_of_getElem? (i := 45) rfl))
theorem dX12_isOwn_88 : decode cX12_isOwn 88 = .ok (.lcmp, 1) := of_decide_eq_true (List.all_eq_true.mp dsX12_isOwn_0_ok (88, (.lcmp, 1)) (List.mem_of_getElem? (i := 46) rfl))
theorem dX12_isOwn_89 : decode cX12_isOwn 89 = .ok (.ifCond .eq 35, 3) := of_decide_eq_true (List.all_eq_true.mp dsX12_isOwn_0_ok (89, (.ifCond .eq 35, 3)) (List.mem_of_getElem? (i := 47) rfl))
theorem dX12_isOwn_92 : decode cX12_isOwn 92 = .ok (.lload_n 1, 1) := of_decide_eq_true (List.all_eq_true.mp dsX12_isOwn_0_ok (92, (.lload_n 1, 1)) (List.mem_of_getElem? (i := 48) rfl))
theorem dX12_isOwn_93 : decode cX12_isOwn 93 = .ok (.ldc2_w 275, 3) := of_decide_eq_true (List.all_eq_true.mp dsX12_isOwn_0_ok (93, (.ldc2_w 275, 3)) (List.mem_of_getElem? (i := 49) rfl))
theorem dX12_isOwn_96 : decode cX12_isOwn 96 = .ok (.lcmp, 1) := of_decide_eq_true (List.all_eq_true.mp dsX12_isOwn_0_ok (96, (.lcmp, 1)) (List.mem_of_getElem? (i := 50) rfl))
theorem dX12_isOwn_97 : decode cX12_isOwn 97 = .ok (.ifCond .eq 27, 3) := of_decide_eq_true (List.all_eq_true.mp dsX12_isOwn_0_ok (97, (.ifCond .eq 27, 3)) (List.mem_of_getElem? (i := 51) rfl))
theorem dX12_isOwn_100 : decode cX12_isOwn 100 = .ok (.lload_n 1, 1) := of_decide_eq_true (List.all_eq_true.mp dsX12_isOwn_0_ok (100, (.lload_n 1, 1)) (List.mem_of_getElem? (i := 52) rfl))
theorem dX12_isOwn_101 : decode cX12_isOwn 101 = .ok (.ldc2_w 277, 3) := of_decide_eq_true (List.all_eq_true.mp dsX12_isOwn_0_ok (101, (.ldc2_w 277, 3)) (List.mem_of_getElem? (i := 53) rfl))
theorem dX12_isOwn_104 : decode cX12_isOwn 104 = .ok (.lcmp, 1) := of_decide_eq_true (List.all_eq_true.mp dsX12_isOwn_0_ok (104, (.lcmp, 1)) (List.mem_of_getElem? (i := 54) rfl))
theorem dX12_isOwn_105 : decode cX12_isOwn 105 = .ok (.ifCond .eq 19, 3) := of_decide_eq_true (List.all_eq_true.mp dsX12_isOwn_0_ok (105, (.ifCond .eq 19, 3)) (List.mem_of_getElem? (i := 55) rfl))
theorem dX12_isOwn_108 : decode cX12_isOwn 108 = .ok (.lload_n 1, 1) := of_decide_eq_true (List.all_eq_true.mp dsX12_isOwn_0_ok (108, (.lload_n 1, 1)) (List.mem_of_getElem? (i := 56) rfl))
theorem dX12_isOwn_109 : decode cX12_isOwn 109 = .ok (.ldc2_w 279, 3) := of_decide_eq_true (List.all_eq_true.mp dsX12_isOwn_0_ok (109, (.ldc2_w 279, 3)) (List.mem_of_getElem? (i := 57) rfl))
theorem dX12_isOwn_112 : decode cX12_isOwn 112 = .ok (.lcmp, 1) := of_decide_eq_true (List.all_eq_true.mp dsX12_isOwn_0_ok (112, (.lcmp, 1)) (List.mem_of_getElem? (i := 58) rfl))
theorem dX12_isOwn_113 : decode cX12_isOwn 113 = .ok (.ifCond .eq 11, 3) := of_decide_eq_true (List.all_eq_true.mp dsX12_isOwn_0_ok (113, (.ifCond .eq 11, 3)) (List.mem_of_getElem? (i := 59) rfl))
def dsX12_isOwn_1 : List (Nat × Instr × Nat) := [(116, (.lload_n 1, 1)), (117, (.ldc2_w 281, 3)), (120, (.lcmp, 1)), (121, (.ifCond .ne 5, 3)), (124, (.iconst 1, 1)), (125, (.ireturn, 1)), (126, (.lload_n 1, 1)), (127, (.ldc2_w 283, 3)), (130, (.lcmp, 1)), (131, (.ifCond .eq 35, 3)), (134, (.lload_n 1, 1)), (135, (.ldc2_w 285, 3)), (138, (.lcmp, 1)), (139, (.ifCond .eq 27, 3)), (142, (.lload_n 1, 1)), (143, (.ldc2_w 287, 3)), (146, (.lcmp, 1)), (147, (.ifCond .eq 19, 3)), (150, (.lload_n 1, 1)), (151, (.ldc2_w 289, 3)), (154, (.lcmp, 1)), (155, (.ifCond .eq 11, 3)), (158, (.lload_n 1, 1)), (159, (.ldc2_w 291, 3)), (162, (.lcmp, 1)), (163, (.ifCond .ne 5, 3)), (166, (.iconst 1, 1)), (167, (.ireturn, 1)), (168, (.lload_n 1, 1)), (169, (.ldc2_w 293, 3)), (172, (.lcmp, 1)), (173, (.ifCond .eq 27, 3)), (176, (.lload_n 1, 1)), (177, (.ldc2_w 295, 3)), (180, (.lcmp, 1)), (181, (.ifCond .eq 19, 3)), (184, (.lload_n 1, 1)), (185, (.ldc2_w 297, 3)), (188, (.lcmp, 1)), (189, (.ifCond .eq 11, 3)), (192, (.lload_n 1, 1)), (193, (.ldc2_w 299, 3)), (196, (.lcmp, 1)), (197, (.ifCond .ne 5, 3)), (200, (.iconst 1, 1)), (201, (.ireturn, 1)), (202, (.iconst 0, 1)), (203, (.ireturn, 1))]
theorem dsX12_isOwn_1_ok : (dsX12_isOwn_1.all fun q => decide (decode cX12_isOwn q.1 = .ok q.2)) = true := by decide +kernel
theorem dX12_isOwn_116 : decode cX12_isOwn 116 = .ok (.lload_n 1, 1) := of_decide_eq_true (List.all_eq_true.mp dsX12_isOwn_1_ok (116, (.lload_n 1, 1)) (List.mem_of_getElem? (i := 0) rfl))
theorem dX12_isOwn_117 : decode cX12_isOwn 117 = .ok (.ldc2_w 281, 3) := of_decide_eq_true (List.all_eq_true.mp dsX12_isOwn_1_ok (117, (.ldc2_w 281, 3)) (List.mem_of_getElem? (i := 1) rfl))
theorem dX12_isOwn_120 : decode cX12_isOwn 120 = .ok (.lcmp, 1) := of_decide_eq_true (List.all_eq_true.mp dsX12_isOwn_1_ok (120, (.lcmp, 1)) (List.mem_of_getElem? (i := 2) rfl))
theorem dX12_isOwn_121 : decode cX12_isOwn 121 = .ok (.ifCond .ne 5, 3) := of_decide_eq_true (List.all_eq_true.mp dsX12_isOwn_1_ok (121, (.ifCond .ne 5, 3)) (List.mem_of_getElem? (i := 3) rfl))
theorem dX12_isOwn_124 : decode cX12_isOwn 124 = .ok (.iconst 1, 1) := of_decide_eq_true (List.all_eq_true.mp dsX12_isOwn_1_ok (124, (.iconst 1, 1)) (List.mem_of_getElem? (i := 4) rfl))
theorem dX12_isOwn_125 : decode cX12_isOwn 125 = .ok (.ireturn, 1) := of_decide_eq_true (List.all_eq_true.mp dsX12_isOwn_1_ok (125, (.ireturn, 1)) (List.mem_of_getElem? (i := 5) rfl))
theorem dX12_isOwn_126 : decode cX12_isOwn 126 = .ok (.lload_n 1, 1) := of_decide_eq_true (List.all_eq_true.mp dsX12_isOwn_1_ok (126, (.lload_n 1, 1)) (List.mem_of_getElem? (i := 6) rfl))
theorem dX12_isOwn_127 : decode cX12_isOwn 127 = .ok (.ldc2_w 283, 3) := of_decide_eq_true (List.all_eq_true.mp dsX12_isOwn_1_ok (127, (.ldc2_w 283, 3)) (List.mem_of_getElem? (i := 7) rfl))
theorem dX12_isOwn_130 : decode cX12_isOwn 130 = .ok (.lcmp, 1) := of_decide_eq_true (List.all_eq_true.mp dsX12_isOwn_1_ok (130, (.lcmp, 1)) (List.mem_of_getElem? (i := 8) rfl))
theorem dX12_isOwn_131 : decode cX12_isOwn 131 = .ok (.ifCond .eq 35, 3) := of_decide_eq_true (List.all_eq_true.mp dsX12_isOwn_1_ok (131, (.ifCond .eq 35, 3)) (List.mem_of_getElem? (i := 9) rfl))
theorem dX12_isOwn_134 : decode cX12_isOwn 134 = .ok (.lload_n 1, 1) := of_decide_eq_true (List.all_eq_true.mp dsX12_isOwn_1_ok (134, (.lload_n 1, 1)) (List.mem_of_getElem? (i := 10) rfl))
theorem dX12_isOwn_135 : decode cX12_isOwn 135 = .ok (.ldc2_w 285, 3) := of_decide_eq_true (List.all_eq_true.mp dsX12_isOwn_1_ok (135, (.ldc2_w 285, 3)) (List.mem_of_getElem? (i := 11) rfl))
theorem dX12_isOwn_138 : decode cX12_isOwn 138 = .ok (.lcmp, 1) := of_decide_eq_true (List.all_eq_true.mp dsX12_isOwn_1_ok (138, (.lcmp, 1)) (List.mem_of_getElem? (i := 12) rfl))
theorem dX12_isOwn_139 : decode cX12_isOwn 139 = .ok (.ifCond .eq 27, 3) := of_decide_eq_true (List.all_eq_true.mp dsX12_isOwn_1_ok (139, (.ifCond .eq 27, 3)) (List.mem_of_getElem? (i := 13) rfl))
theorem dX12_isOwn_142 : decode cX12_isOwn 142 = .ok (.lload_n 1, 1) := of_decide_eq_true (List.all_eq_true.mp dsX12_isOwn_1_ok (142, (.lload_n 1, 1)) (List.mem_of_getElem? (i := 14) rfl))
theorem dX12_isOwn_143 : decode cX12_isOwn 143 = .ok (.ldc2_w 287, 3) := of_decide_eq_true (List.all_eq_true.mp dsX12_isOwn_1_ok (143, (.ldc2_w 287, 3)) (List.mem_of_getElem? (i := 15) rfl))
theorem dX12_isOwn_146 : decode cX12_isOwn 146 = .ok (.lcmp, 1) := of_decide_eq_true (List.all_eq_true.mp dsX12_isOwn_1_ok (146, (.lcmp, 1)) (List.mem_of_getElem? (i := 16) rfl))
theorem dX12_isOwn_147 : decode cX12_isOwn 147 = .ok (.ifCond .eq 19, 3) := of_decide_eq_true (List.all_eq_true.mp dsX12_isOwn_1_ok (147, (.ifCond .eq 19, 3)) (List.mem_of_getElem? (i := 17) rfl))
theorem dX12_isOwn_150 : decode cX12_isOwn 150 = .ok (.lload_n 1, 1) := of_decide_eq_true (List.all_eq_true.mp dsX12_isOwn_1_ok (150, (.lload_n 1, 1)) (List.mem_of_getElem? (i := 18) rfl))
theorem dX12_isOwn_151 : decode cX12_isOwn 151 = .ok (.ldc2_w 289, 3) := of_decide_eq_true (List.all_eq_true.mp dsX12_isOwn_1_ok (151, (.ldc2_w 289, 3)) (List.mem_of_getElem? (i := 19) rfl))
theorem dX12_isOwn_154 : decode cX12_isOwn 154 = .ok (.lcmp, 1) := of_decide_eq_true (List.all_eq_true.mp dsX12_isOwn_1_ok (154, (.lcmp, 1)) (List.mem_of_getElem? (i := 20) rfl))
theorem dX12_isOwn_155 : decode cX12_isOwn 155 = .ok (.ifCond .eq 11, 3) := of_decide_eq_true (List.all_eq_true.mp dsX12_isOwn_1_ok (155, (.ifCond .eq 11, 3)) (List.mem_of_getElem? (i := 21) rfl))
theorem dX12_isOwn_158 : decode cX12_isOwn 158 = .ok (.lload_n 1, 1) := of_decide_eq_true (List.all_eq_true.mp dsX12_isOwn_1_ok (158, (.lload_n 1, 1)) (List.mem_of_getElem? (i := 22) rfl))
theorem dX12_isOwn_159 : decode cX12_isOwn 159 = .ok (.ldc2_w 291, 3) := of_decide_eq_true (List.all_eq_true.mp dsX12_isOwn_1_ok (159, (.ldc2_w 291, 3)) (List.mem_of_getElem? (i := 23) rfl))
theorem dX12_isOwn_162 : decode cX12_isOwn 162 = .ok (.lcmp, 1) := of_decide_eq_true (List.all_eq_true.mp dsX12_isOwn_1_ok (162, (.lcmp, 1)) (List.mem_of_getElem? (i := 24) rfl))
theorem dX12_isOwn_163 : decode cX12_isOwn 163 = .ok (.ifCond .ne 5, 3) := of_decide_eq_true (List.all_eq_true.mp dsX12_isOwn_1_ok (163, (.ifCond .ne 5, 3)) (List.mem_of_getElem? (i := 25) rfl))
theorem dX12_isOwn_166 : decode cX12_isOwn 166 = .ok (.iconst 1, 1) := of_decide_eq_true (List.all_eq_true.mp dsX12_isOwn_1_ok (166, (.iconst 1, 1)) (List.mem_of_getElem? (i := 26) rfl))
theorem dX12_isOwn_167 : decode cX12_isOwn 167 = .ok (.ireturn, 1) := of_decide_eq_true (List.all_eq_true.mp dsX12_isOwn_1_ok (167, (.ireturn, 1)) (List.mem_of_getElem? (i := 27) rfl))
theorem dX12_isOwn_168 : decode cX12_isOwn 168 = .ok (.lload_n 1, 1) := of_decide_eq_true (List.all_eq_true.mp dsX12_isOwn_1_ok (168, (.lload_n 1, 1)) (List.mem_of_getElem? (i := 28) rfl))
theorem dX12_isOwn_169 : decode cX12_isOwn 169 = .ok (.ldc2_w 293, 3) := of_decide_eq_true (List.all_eq_true.mp dsX12_isOwn_1_ok (169, (.ldc2_w 293, 3)) (List.mem_of_getElem? (i := 29) rfl))
theorem dX12_isOwn_172 : decode cX12_isOwn 172 = .ok (.lcmp, 1) := of_decide_eq_true (List.all_eq_true.mp dsX12_isOwn_1_ok (172, (.lcmp, 1)) (List.mem_of_getElem? (i := 30) rfl))
theorem dX12_isOwn_173 : decode cX12_isOwn 173 = .ok (.ifCond .eq 27, 3) := of_decide_eq_true (List.all_eq_true.mp dsX12_isOwn_1_ok (173, (.ifCond .eq 27, 3)) (List.mem_of_getElem? (i := 31) rfl))
theorem dX12_isOwn_176 : decode cX12_isOwn 176 = .ok (.lload_n 1, 1) := of_decide_eq_true (List.all_eq_true.mp dsX12_isOwn_1_ok (176, (.lload_n 1, 1)) (List.mem_of_getElem? (i := 32) rfl))
theorem dX12_isOwn_177 : decode cX12_isOwn 177 = .ok (.ldc2_w 295, 3) := of_decide_eq_true (List.all_eq_true.mp dsX12_isOwn_1_ok (177, (.ldc2_w 295, 3)) (List.mem_of_getElem? (i := 33) rfl))
theorem dX12_isOwn_180 : decode cX12_isOwn 180 = .ok (.lcmp, 1) := of_decide_eq_true (List.all_eq_true.mp dsX12_isOwn_1_ok (180, (.lcmp, 1)) (List.mem_of_getElem? (i := 34) rfl))
theorem dX12_isOwn_181 : decode cX12_isOwn 181 = .ok (.ifCond .eq 19, 3) := of_decide_eq_true (List.all_eq_true.mp dsX12_isOwn_1_ok (181, (.ifCond .eq 19, 3)) (List.mem_of_getElem? (i := 35) rfl))
theorem dX12_isOwn_184 : decode cX12_isOwn 184 = .ok (.lload_n 1, 1) := of_decide_eq_true (List.all_eq_true.mp dsX12_isOwn_1_ok (184, (.lload_n 1, 1)) (List.mem_of_getElem? (i := 36) rfl))
theorem dX12_isOwn_185 : decode cX12_isOwn 185 = .ok (.ldc2_w 297, 3) := of_decide_eq_true (List.all_eq_true.mp dsX12_isOwn_1_ok (185, (.ldc2_w 297, 3)) (List.mem_of_getElem? (i := 37) rfl))
theorem dX12_isOwn_188 : decode cX12_isOwn 188 = .ok (.lcmp, 1) := of_decide_eq_true (List.all_eq_true.mp dsX12_isOwn_1_ok (188, (.lcmp, 1)) (List.mem_of_getElem? (i := 38) rfl))
theorem dX12_isOwn_189 : decode cX12_isOwn 189 = .ok (.ifCond .eq 11, 3) := of_decide_eq_true (List.all_eq_true.mp dsX12_isOwn_1_ok (189, (.ifCond .eq 11, 3)) (List.mem_of_getElem? (i := 39) rfl))
theorem dX12_isOwn_192 : decode cX12_isOwn 192 = .ok (.lload_n 1, 1) := of_decide_eq_true (List.all_eq_true.mp dsX12_isOwn_1_ok (192, (.lload_n 1, 1)) (List.mem_of_getElem? (i := 40) rfl))
theorem dX12_isOwn_193 : decode cX12_isOwn 193 = .ok (.ldc2_w 299, 3) := of_decide_eq_true (List.all_eq_true.mp dsX12_isOwn_1_ok (193, (.ldc2_w 299, 3)) (List.mem_of_getElem? (i := 41) rfl))
theorem dX12_isOwn_196 : decode cX12_isOwn 196 = .ok (.lcmp, 1) := of_decide_eq_true (List.all_eq_true.mp dsX12_isOwn_1_ok (196, (.lcmp, 1)) (List.mem_of_getElem? (i := 42) rfl))
theorem dX12_isOwn_197 : decode cX12_isOwn 197 = .ok (.ifCond .ne 5, 3) := of_decide_eq_true (List.all_eq_true.mp dsX12_isOwn_1_ok (197, (.ifCond .ne 5, 3)) (List.mem_of_getElem? (i := 43) rfl))
theorem dX12_isOwn_200 : decode cX12_isOwn 200 = .ok (.iconst 1, 1) := of_decide_eq_true (List.all_eq_true.mp dsX12_isOwn_1_ok (200, (.iconst 1, 1)) (List.mem_of_getElem? (i := 44) rfl))
theorem dX12_isOwn_201 : decode cX12_isOwn 201 = .ok (.ireturn, 1) := of_decide_eq_true (List.all_eq_true.mp dsX12_isOwn_1_ok (201, (.ireturn, 1)) (List.mem_of_getElem? (i := 45) rfl))
theorem dX12_isOwn_202 : decode cX12_isOwn 202 = .ok (.iconst 0, 1) := of_decide_eq_true (List.all_eq_true.mp dsX12_isOwn_1_ok (202, (.iconst 0, 1)) (List.mem_of_getElem? (i := 46) rfl))
theorem dX12_isOwn_203 : decode cX12_isOwn 203 = .ok (.ireturn, 1) := of_decide_eq_true (List.all_eq_true.mp dsX12_isOwn_1_ok (203, (.ireturn, 1)) (List.mem_of_getElem? (i := 47) rfl))
def fX12_isOwn (N : Nat)   (p1 : Int64) : Option (Int32) :=
  (if (lg_cmp p1 491496238692) = 0 then some 1 else (if (lg_cmp p1 508675318629) = 0 then some 1 else (if (lg_cmp p1 1752527720) = 0 then some 1 else (if (lg_cmp p1 427071727464) = 0 then some 1 else (if (lg_cmp p1 6644082) = 0 then some 1 else (if (lg_cmp p1 7499639) = 0 then some 1 else (if (lg_cmp p1 495672455792) = 0 then some 1 else (if (lg_cmp p1 482854658917) = 0 then some 1 else (if (lg_cmp p1 24948) = 0 then some 1 else (if (lg_cmp p1 1952541803) = 0 then some 1 else (if (lg_cmp p1 1735353715) = 0 then some 1 else (if (lg_cmp p1 448377483891) = 0 then some 1 else (if (lg_cmp p1 499850701683) = 0 then some 1 else (if (lg_cmp p1 474214787188) = 0 then some 1 else (if (lg_cmp p1 1835625573) = 0 then some 1 else (if (lg_cmp p1 125823037105267) = 0 then some 1 else (if (lg_cmp p1 6709618) = 0 then some 1 else (if (lg_cmp p1 26982) = 0 then some 1 else (if (lg_cmp p1 28530) = 0 then some 1 else (if (lg_cmp p1 6385252) = 0 then some 1 else (if (lg_cmp p1 7237492) = 0 then some 1 else (if (lg_cmp p1 6384748) = 0 then some 1 else (if (lg_cmp p1 7170414) = 0 then some 1 else (if (lg_cmp p1 7168376) = 0 then some 1 else some 0))))))))))))))))))))))))
set_option maxHeartbeats 4000000 in
set_option maxRecDepth 100000 in
theorem kX12_isOwn (l : Launch) (dC : Nat → ClassId) (dI : Nat → Nat → Nat) (cI cB cJ cZ cM : ClassId) (z : Nat) (ad : Nat → Nat) (N : Nat) (p1 : Int64) (a_p0 : Nat) {r0 : Int32} (hf : fX12_isOwn N p1 = some r0) : xq_Ct l yX12_isOwn wsX12_isOwn { frames := 0, cells := 0, slots := 0, locals := 0 } (dC, dI) vwCl (xq_tys cI cB cJ cZ cM) z ad [.ref a_p0, .long p1] [] [] (some (.int r0)) := by
  intro sz
  refine Met.ofW (cc := cX12_isOwn) (maxL := 3) (ret := (some .boolean)) (by decide) rfl ?_
  intro p e s m args below meth c s₁ B hml hv
  obtain ⟨rfl, hsz, hP, hK, hD0, hE, hz⟩ := hv
  have hx := B.exec
  have hb := B.bytes
  have hr := B.returns
  have hts := atoms_spec (ws := wsX12_isOwn) B.pre
  have hown : s.vm.findClass RX12 = some m.cls := findClass_of_methodNamed B.named
  have hlocks := B.notSynchronized
  subst hsz
  have hD := hD0.self (sz := s.heap.size)
  have hN := xq_Env.of hE hz hD0
  generalize hAe : va_A [] s.heap.size = A at hD hN ⊢
  have hA : ∀ q : Nat, s.heap.size ≤ q → A q := fun q h => by rw [← hAe]; exact Or.inr h
  clear hAe hD0
  have hS : va_S A s.heap s.heap [] := va_S.rf
  have hl := lv_entry ([.ref a_p0, .long p1]) (n := 3) (Nat.le_of_ble_eq_true rfl)
  rw [lg_entry_eq]
  generalize (lg_sl ([.ref a_p0, .long p1]) ++ List.replicate (3 - (lg_sl ([.ref a_p0, .long p1])).length) Slot.unset).toArray = ls at hl ⊢
  have hl : lv_has ls 3 [(0, .ref a_p0), (1, .long p1)] := hl
  have hw0 := hts (.constantLong RX12 253 (491496238692)) (by decide +kernel)
  have hw1 := hts (.constantLong RX12 255 (508675318629)) (by decide +kernel)
  have hw2 := hts (.constantLong RX12 257 (1752527720)) (by decide +kernel)
  have hw3 := hts (.constantLong RX12 259 (427071727464)) (by decide +kernel)
  have hw4 := hts (.constantLong RX12 261 (6644082)) (by decide +kernel)
  have hw5 := hts (.constantLong RX12 263 (7499639)) (by decide +kernel)
  have hw6 := hts (.constantLong RX12 265 (495672455792)) (by decide +kernel)
  have hw7 := hts (.constantLong RX12 267 (482854658917)) (by decide +kernel)
  have hw8 := hts (.constantLong RX12 269 (24948)) (by decide +kernel)
  have hw9 := hts (.constantLong RX12 271 (1952541803)) (by decide +kernel)
  have hw10 := hts (.constantLong RX12 273 (1735353715)) (by decide +kernel)
  have hw11 := hts (.constantLong RX12 275 (448377483891)) (by decide +kernel)
  have hw12 := hts (.constantLong RX12 277 (499850701683)) (by decide +kernel)
  have hw13 := hts (.constantLong RX12 279 (474214787188)) (by decide +kernel)
  have hw14 := hts (.constantLong RX12 281 (1835625573)) (by decide +kernel)
  have hw15 := hts (.constantLong RX12 283 (125823037105267)) (by decide +kernel)
  have hw16 := hts (.constantLong RX12 285 (6709618)) (by decide +kernel)
  have hw17 := hts (.constantLong RX12 287 (26982)) (by decide +kernel)
  have hw18 := hts (.constantLong RX12 289 (28530)) (by decide +kernel)
  have hw19 := hts (.constantLong RX12 291 (6385252)) (by decide +kernel)
  have hw20 := hts (.constantLong RX12 293 (7237492)) (by decide +kernel)
  have hw21 := hts (.constantLong RX12 295 (6384748)) (by decide +kernel)
  have hw22 := hts (.constantLong RX12 297 (7170414)) (by decide +kernel)
  have hw23 := hts (.constantLong RX12 299 (7168376)) (by decide +kernel)
  unfold fX12_isOwn at hf
  refine lv_lload_n hx hb dX12_isOwn_0 rfl (lv_at hl 1 rfl) ?_
  refine lv_ldc2 (v := 491496238692) hx hb hown hw0 dX12_isOwn_1 ?_
  refine W.lcmp hx hb dX12_isOwn_4 ?_
  refine lv_if_eq (tgt := 40) hx hb dX12_isOwn_5 (by decide) (fun c_ => ?_) (fun c_ => ?_)
  · have hf := xq_pos hf c_
    refine lv_iconst (v := 1) hx hb dX12_isOwn_40 (by decide) ?_
    have hP9 := hP
    have hD9 := hD
    have hS9 := hS
    cases hf
    exact xq_zret hx hb hr (by decide +kernel) hlocks hK hP9 hD9 hS9 dX12_isOwn_41
  · have hf := xq_neg hf c_
    refine lv_lload_n hx hb dX12_isOwn_8 rfl (lv_at hl 1 rfl) ?_
    refine lv_ldc2 (v := 508675318629) hx hb hown hw1 dX12_isOwn_9 ?_
    refine W.lcmp hx hb dX12_isOwn_12 ?_
    refine lv_if_eq (tgt := 40) hx hb dX12_isOwn_13 (by decide) (fun c_ => ?_) (fun c_ => ?_)
    · have hf := xq_pos hf c_
      refine lv_iconst (v := 1) hx hb dX12_isOwn_40 (by decide) ?_
      have hP9 := hP
      have hD9 := hD
      have hS9 := hS
      cases hf
      exact xq_zret hx hb hr (by decide +kernel) hlocks hK hP9 hD9 hS9 dX12_isOwn_41
    · have hf := xq_neg hf c_
      refine lv_lload_n hx hb dX12_isOwn_16 rfl (lv_at hl 1 rfl) ?_
      refine lv_ldc2 (v := 1752527720) hx hb hown hw2 dX12_isOwn_17 ?_
      refine W.lcmp hx hb dX12_isOwn_20 ?_
      refine lv_if_eq (tgt := 40) hx hb dX12_isOwn_21 (by decide) (fun c_ => ?_) (fun c_ => ?_)
      · have hf := xq_pos hf c_
        refine lv_iconst (v := 1) hx hb dX12_isOwn_40 (by decide) ?_
        have hP9 := hP
        have hD9 := hD
        have hS9 := hS
        cases hf
        exact xq_zret hx hb hr (by decide +kernel) hlocks hK hP9 hD9 hS9 dX12_isOwn_41
      · have hf := xq_neg hf c_
        refine lv_lload_n hx hb dX12_isOwn_24 rfl (lv_at hl 1 rfl) ?_
        refine lv_ldc2 (v := 427071727464) hx hb hown hw3 dX12_isOwn_25 ?_
        refine W.lcmp hx hb dX12_isOwn_28 ?_
        refine lv_if_eq (tgt := 40) hx hb dX12_isOwn_29 (by decide) (fun c_ => ?_) (fun c_ => ?_)
        · have hf := xq_pos hf c_
          refine lv_iconst (v := 1) hx hb dX12_isOwn_40 (by decide) ?_
          have hP9 := hP
          have hD9 := hD
          have hS9 := hS
          cases hf
          exact xq_zret hx hb hr (by decide +kernel) hlocks hK hP9 hD9 hS9 dX12_isOwn_41
        · have hf := xq_neg hf c_
          refine lv_lload_n hx hb dX12_isOwn_32 rfl (lv_at hl 1 rfl) ?_
          refine lv_ldc2 (v := 6644082) hx hb hown hw4 dX12_isOwn_33 ?_
          refine W.lcmp hx hb dX12_isOwn_36 ?_
          refine lv_if_ne (tgt := 42) hx hb dX12_isOwn_37 (by decide) (fun c_ => ?_) (fun c_ => ?_)
          · have hf := xq_neg hf c_
            refine lv_lload_n hx hb dX12_isOwn_42 rfl (lv_at hl 1 rfl) ?_
            refine lv_ldc2 (v := 7499639) hx hb hown hw5 dX12_isOwn_43 ?_
            refine W.lcmp hx hb dX12_isOwn_46 ?_
            refine lv_if_eq (tgt := 82) hx hb dX12_isOwn_47 (by decide) (fun c_ => ?_) (fun c_ => ?_)
            · have hf := xq_pos hf c_
              refine lv_iconst (v := 1) hx hb dX12_isOwn_82 (by decide) ?_
              have hP9 := hP
              have hD9 := hD
              have hS9 := hS
              cases hf
              exact xq_zret hx hb hr (by decide +kernel) hlocks hK hP9 hD9 hS9 dX12_isOwn_83
            · have hf := xq_neg hf c_
              refine lv_lload_n hx hb dX12_isOwn_50 rfl (lv_at hl 1 rfl) ?_
              refine lv_ldc2 (v := 495672455792) hx hb hown hw6 dX12_isOwn_51 ?_
              refine W.lcmp hx hb dX12_isOwn_54 ?_
              refine lv_if_eq (tgt := 82) hx hb dX12_isOwn_55 (by decide) (fun c_ => ?_) (fun c_ => ?_)
              · have hf := xq_pos hf c_
                refine lv_iconst (v := 1) hx hb dX12_isOwn_82 (by decide) ?_
                have hP9 := hP
                have hD9 := hD
                have hS9 := hS
                cases hf
                exact xq_zret hx hb hr (by decide +kernel) hlocks hK hP9 hD9 hS9 dX12_isOwn_83
              · have hf := xq_neg hf c_
                refine lv_lload_n hx hb dX12_isOwn_58 rfl (lv_at hl 1 rfl) ?_
                refine lv_ldc2 (v := 482854658917) hx hb hown hw7 dX12_isOwn_59 ?_
                refine W.lcmp hx hb dX12_isOwn_62 ?_
                refine lv_if_eq (tgt := 82) hx hb dX12_isOwn_63 (by decide) (fun c_ => ?_) (fun c_ => ?_)
                · have hf := xq_pos hf c_
                  refine lv_iconst (v := 1) hx hb dX12_isOwn_82 (by decide) ?_
                  have hP9 := hP
                  have hD9 := hD
                  have hS9 := hS
                  cases hf
                  exact xq_zret hx hb hr (by decide +kernel) hlocks hK hP9 hD9 hS9 dX12_isOwn_83
                · have hf := xq_neg hf c_
                  refine lv_lload_n hx hb dX12_isOwn_66 rfl (lv_at hl 1 rfl) ?_
                  refine lv_ldc2 (v := 24948) hx hb hown hw8 dX12_isOwn_67 ?_
                  refine W.lcmp hx hb dX12_isOwn_70 ?_
                  refine lv_if_eq (tgt := 82) hx hb dX12_isOwn_71 (by decide) (fun c_ => ?_) (fun c_ => ?_)
                  · have hf := xq_pos hf c_
                    refine lv_iconst (v := 1) hx hb dX12_isOwn_82 (by decide) ?_
                    have hP9 := hP
                    have hD9 := hD
                    have hS9 := hS
                    cases hf
                    exact xq_zret hx hb hr (by decide +kernel) hlocks hK hP9 hD9 hS9 dX12_isOwn_83
                  · have hf := xq_neg hf c_
                    refine lv_lload_n hx hb dX12_isOwn_74 rfl (lv_at hl 1 rfl) ?_
                    refine lv_ldc2 (v := 1952541803) hx hb hown hw9 dX12_isOwn_75 ?_
                    refine W.lcmp hx hb dX12_isOwn_78 ?_
                    refine lv_if_ne (tgt := 84) hx hb dX12_isOwn_79 (by decide) (fun c_ => ?_) (fun c_ => ?_)
                    · have hf := xq_neg hf c_
                      refine lv_lload_n hx hb dX12_isOwn_84 rfl (lv_at hl 1 rfl) ?_
                      refine lv_ldc2 (v := 1735353715) hx hb hown hw10 dX12_isOwn_85 ?_
                      refine W.lcmp hx hb dX12_isOwn_88 ?_
                      refine lv_if_eq (tgt := 124) hx hb dX12_isOwn_89 (by decide) (fun c_ => ?_) (fun c_ => ?_)
                      · have hf := xq_pos hf c_
                        refine lv_iconst (v := 1) hx hb dX12_isOwn_124 (by decide) ?_
                        have hP9 := hP
                        have hD9 := hD
                        have hS9 := hS
                        cases hf
                        exact xq_zret hx hb hr (by decide +kernel) hlocks hK hP9 hD9 hS9 dX12_isOwn_125
                      · have hf := xq_neg hf c_
                        refine lv_lload_n hx hb dX12_isOwn_92 rfl (lv_at hl 1 rfl) ?_
                        refine lv_ldc2 (v := 448377483891) hx hb hown hw11 dX12_isOwn_93 ?_
                        refine W.lcmp hx hb dX12_isOwn_96 ?_
                        refine lv_if_eq (tgt := 124) hx hb dX12_isOwn_97 (by decide) (fun c_ => ?_) (fun c_ => ?_)
                        · have hf := xq_pos hf c_
                          refine lv_iconst (v := 1) hx hb dX12_isOwn_124 (by decide) ?_
                          have hP9 := hP
                          have hD9 := hD
                          have hS9 := hS
                          cases hf
                          exact xq_zret hx hb hr (by decide +kernel) hlocks hK hP9 hD9 hS9 dX12_isOwn_125
                        · have hf := xq_neg hf c_
                          refine lv_lload_n hx hb dX12_isOwn_100 rfl (lv_at hl 1 rfl) ?_
                          refine lv_ldc2 (v := 499850701683) hx hb hown hw12 dX12_isOwn_101 ?_
                          refine W.lcmp hx hb dX12_isOwn_104 ?_
                          refine lv_if_eq (tgt := 124) hx hb dX12_isOwn_105 (by decide) (fun c_ => ?_) (fun c_ => ?_)
                          · have hf := xq_pos hf c_
                            refine lv_iconst (v := 1) hx hb dX12_isOwn_124 (by decide) ?_
                            have hP9 := hP
                            have hD9 := hD
                            have hS9 := hS
                            cases hf
                            exact xq_zret hx hb hr (by decide +kernel) hlocks hK hP9 hD9 hS9 dX12_isOwn_125
                          · have hf := xq_neg hf c_
                            refine lv_lload_n hx hb dX12_isOwn_108 rfl (lv_at hl 1 rfl) ?_
                            refine lv_ldc2 (v := 474214787188) hx hb hown hw13 dX12_isOwn_109 ?_
                            refine W.lcmp hx hb dX12_isOwn_112 ?_
                            refine lv_if_eq (tgt := 124) hx hb dX12_isOwn_113 (by decide) (fun c_ => ?_) (fun c_ => ?_)
                            · have hf := xq_pos hf c_
                              refine lv_iconst (v := 1) hx hb dX12_isOwn_124 (by decide) ?_
                              have hP9 := hP
                              have hD9 := hD
                              have hS9 := hS
                              cases hf
                              exact xq_zret hx hb hr (by decide +kernel) hlocks hK hP9 hD9 hS9 dX12_isOwn_125
                            · have hf := xq_neg hf c_
                              refine lv_lload_n hx hb dX12_isOwn_116 rfl (lv_at hl 1 rfl) ?_
                              refine lv_ldc2 (v := 1835625573) hx hb hown hw14 dX12_isOwn_117 ?_
                              refine W.lcmp hx hb dX12_isOwn_120 ?_
                              refine lv_if_ne (tgt := 126) hx hb dX12_isOwn_121 (by decide) (fun c_ => ?_) (fun c_ => ?_)
                              · have hf := xq_neg hf c_
                                refine lv_lload_n hx hb dX12_isOwn_126 rfl (lv_at hl 1 rfl) ?_
                                refine lv_ldc2 (v := 125823037105267) hx hb hown hw15 dX12_isOwn_127 ?_
                                refine W.lcmp hx hb dX12_isOwn_130 ?_
                                refine lv_if_eq (tgt := 166) hx hb dX12_isOwn_131 (by decide) (fun c_ => ?_) (fun c_ => ?_)
                                · have hf := xq_pos hf c_
                                  refine lv_iconst (v := 1) hx hb dX12_isOwn_166 (by decide) ?_
                                  have hP9 := hP
                                  have hD9 := hD
                                  have hS9 := hS
                                  cases hf
                                  exact xq_zret hx hb hr (by decide +kernel) hlocks hK hP9 hD9 hS9 dX12_isOwn_167
                                · have hf := xq_neg hf c_
                                  refine lv_lload_n hx hb dX12_isOwn_134 rfl (lv_at hl 1 rfl) ?_
                                  refine lv_ldc2 (v := 6709618) hx hb hown hw16 dX12_isOwn_135 ?_
                                  refine W.lcmp hx hb dX12_isOwn_138 ?_
                                  refine lv_if_eq (tgt := 166) hx hb dX12_isOwn_139 (by decide) (fun c_ => ?_) (fun c_ => ?_)
                                  · have hf := xq_pos hf c_
                                    refine lv_iconst (v := 1) hx hb dX12_isOwn_166 (by decide) ?_
                                    have hP9 := hP
                                    have hD9 := hD
                                    have hS9 := hS
                                    cases hf
                                    exact xq_zret hx hb hr (by decide +kernel) hlocks hK hP9 hD9 hS9 dX12_isOwn_167
                                  · have hf := xq_neg hf c_
                                    refine lv_lload_n hx hb dX12_isOwn_142 rfl (lv_at hl 1 rfl) ?_
                                    refine lv_ldc2 (v := 26982) hx hb hown hw17 dX12_isOwn_143 ?_
                                    refine W.lcmp hx hb dX12_isOwn_146 ?_
                                    refine lv_if_eq (tgt := 166) hx hb dX12_isOwn_147 (by decide) (fun c_ => ?_) (fun c_ => ?_)
                                    · have hf := xq_pos hf c_
                                      refine lv_iconst (v := 1) hx hb dX12_isOwn_166 (by decide) ?_
                                      have hP9 := hP
                                      have hD9 := hD
                                      have hS9 := hS
                                      cases hf
                                      exact xq_zret hx hb hr (by decide +kernel) hlocks hK hP9 hD9 hS9 dX12_isOwn_167
                                    · have hf := xq_neg hf c_
                                      refine lv_lload_n hx hb dX12_isOwn_150 rfl (lv_at hl 1 rfl) ?_
                                      refine lv_ldc2 (v := 28530) hx hb hown hw18 dX12_isOwn_151 ?_
                                      refine W.lcmp hx hb dX12_isOwn_154 ?_
                                      refine lv_if_eq (tgt := 166) hx hb dX12_isOwn_155 (by decide) (fun c_ => ?_) (fun c_ => ?_)
                                      · have hf := xq_pos hf c_
                                        refine lv_iconst (v := 1) hx hb dX12_isOwn_166 (by decide) ?_
                                        have hP9 := hP
                                        have hD9 := hD
                                        have hS9 := hS
                                        cases hf
                                        exact xq_zret hx hb hr (by decide +kernel) hlocks hK hP9 hD9 hS9 dX12_isOwn_167
                                      · have hf := xq_neg hf c_
                                        refine lv_lload_n hx hb dX12_isOwn_158 rfl (lv_at hl 1 rfl) ?_
                                        refine lv_ldc2 (v := 6385252) hx hb hown hw19 dX12_isOwn_159 ?_
                                        refine W.lcmp hx hb dX12_isOwn_162 ?_
                                        refine lv_if_ne (tgt := 168) hx hb dX12_isOwn_163 (by decide) (fun c_ => ?_) (fun c_ => ?_)
                                        · have hf := xq_neg hf c_
                                          refine lv_lload_n hx hb dX12_isOwn_168 rfl (lv_at hl 1 rfl) ?_
                                          refine lv_ldc2 (v := 7237492) hx hb hown hw20 dX12_isOwn_169 ?_
                                          refine W.lcmp hx hb dX12_isOwn_172 ?_
                                          refine lv_if_eq (tgt := 200) hx hb dX12_isOwn_173 (by decide) (fun c_ => ?_) (fun c_ => ?_)
                                          · have hf := xq_pos hf c_
                                            refine lv_iconst (v := 1) hx hb dX12_isOwn_200 (by decide) ?_
                                            have hP9 := hP
                                            have hD9 := hD
                                            have hS9 := hS
                                            cases hf
                                            exact xq_zret hx hb hr (by decide +kernel) hlocks hK hP9 hD9 hS9 dX12_isOwn_201
                                          · have hf := xq_neg hf c_
                                            refine lv_lload_n hx hb dX12_isOwn_176 rfl (lv_at hl 1 rfl) ?_
                                            refine lv_ldc2 (v := 6384748) hx hb hown hw21 dX12_isOwn_177 ?_
                                            refine W.lcmp hx hb dX12_isOwn_180 ?_
                                            refine lv_if_eq (tgt := 200) hx hb dX12_isOwn_181 (by decide) (fun c_ => ?_) (fun c_ => ?_)
                                            · have hf := xq_pos hf c_
                                              refine lv_iconst (v := 1) hx hb dX12_isOwn_200 (by decide) ?_
                                              have hP9 := hP
                                              have hD9 := hD
                                              have hS9 := hS
                                              cases hf
                                              exact xq_zret hx hb hr (by decide +kernel) hlocks hK hP9 hD9 hS9 dX12_isOwn_201
                                            · have hf := xq_neg hf c_
                                              refine lv_lload_n hx hb dX12_isOwn_184 rfl (lv_at hl 1 rfl) ?_
                                              refine lv_ldc2 (v := 7170414) hx hb hown hw22 dX12_isOwn_185 ?_
                                              refine W.lcmp hx hb dX12_isOwn_188 ?_
                                              refine lv_if_eq (tgt := 200) hx hb dX12_isOwn_189 (by decide) (fun c_ => ?_) (fun c_ => ?_)
                                              · have hf := xq_pos hf c_
                                                refine lv_iconst (v := 1) hx hb dX12_isOwn_200 (by decide) ?_
                                                have hP9 := hP
                                                have hD9 := hD
                                                have hS9 := hS
                                                cases hf
                                                exact xq_zret hx hb hr (by decide +kernel) hlocks hK hP9 hD9 hS9 dX12_isOwn_201
                                              · have hf := xq_neg hf c_
                                                refine lv_lload_n hx hb dX12_isOwn_192 rfl (lv_at hl 1 rfl) ?_
                                                refine lv_ldc2 (v := 7168376) hx hb hown hw23 dX12_isOwn_193 ?_
                                                refine W.lcmp hx hb dX12_isOwn_196 ?_
                                                refine lv_if_ne (tgt := 202) hx hb dX12_isOwn_197 (by decide) (fun c_ => ?_) (fun c_ => ?_)
                                                · have hf := xq_neg hf c_
                                                  refine lv_iconst (v := 0) hx hb dX12_isOwn_202 (by decide) ?_
                                                  have hP9 := hP
                                                  have hD9 := hD
                                                  have hS9 := hS
                                                  cases hf
                                                  exact xq_zret hx hb hr (by decide +kernel) hlocks hK hP9 hD9 hS9 dX12_isOwn_203
                                                · have hf := xq_pos hf c_
                                                  refine lv_iconst (v := 1) hx hb dX12_isOwn_200 (by decide) ?_
                                                  have hP9 := hP
                                                  have hD9 := hD
                                                  have hS9 := hS
                                                  cases hf
                                                  exact xq_zret hx hb hr (by decide +kernel) hlocks hK hP9 hD9 hS9 dX12_isOwn_201
                                        · have hf := xq_pos hf c_
                                          refine lv_iconst (v := 1) hx hb dX12_isOwn_166 (by decide) ?_
                                          have hP9 := hP
                                          have hD9 := hD
                                          have hS9 := hS
                                          cases hf
                                          exact xq_zret hx hb hr (by decide +kernel) hlocks hK hP9 hD9 hS9 dX12_isOwn_167
                              · have hf := xq_pos hf c_
                                refine lv_iconst (v := 1) hx hb dX12_isOwn_124 (by decide) ?_
                                have hP9 := hP
                                have hD9 := hD
                                have hS9 := hS
                                cases hf
                                exact xq_zret hx hb hr (by decide +kernel) hlocks hK hP9 hD9 hS9 dX12_isOwn_125
                    · have hf := xq_pos hf c_
                      refine lv_iconst (v := 1) hx hb dX12_isOwn_82 (by decide) ?_
                      have hP9 := hP
                      have hD9 := hD
                      have hS9 := hS
                      cases hf
                      exact xq_zret hx hb hr (by decide +kernel) hlocks hK hP9 hD9 hS9 dX12_isOwn_83
          · have hf := xq_pos hf c_
            refine lv_iconst (v := 1) hx hb dX12_isOwn_40 (by decide) ?_
            have hP9 := hP
            have hD9 := hD
            have hS9 := hS
            cases hf
            exact xq_zret hx hb hr (by decide +kernel) hlocks hK hP9 hD9 hS9 dX12_isOwn_41
def dsX12_isNamed_0 : List (Nat × Instr × Nat) := [(0, (.iconst 0, 1)), (1, (.istore_n 3, 1)), (2, (.iload_n 3, 1)), (3, (.aload_n 0, 1)), (4, (.getfield 66, 3)), (7, (.aload_n 0, 1)), (8, (.getfield 106, 3)), (11, (.iaload, 1)), (12, (.if_icmp .ge 30, 3)), (15, (.aload_n 0, 1)), (16, (.getfield 96, 3)), (19, (.bipush 7, 2)), (21, (.aload_n 0, 1)), (22, (.getfield 106, 3)), (25, (.imul, 1)), (26, (.iload_n 3, 1)), (27, (.iadd, 1)), (28, (.laload, 1)), (29, (.lload_n 1, 1)), (30, (.lcmp, 1)), (31, (.ifCond .ne 5, 3)), (34, (.iconst 1, 1)), (35, (.ireturn, 1)), (36, (.iinc 3 1, 3)), (39, (.goto (-37), 3)), (42, (.iconst 0, 1)), (43, (.istore_n 3, 1)), (44, (.iload_n 3, 1)), (45, (.aload_n 0, 1)), (46, (.getfield 75, 3)), (49, (.aload_n 0, 1)), (50, (.getfield 106, 3)), (53, (.iaload, 1)), (54, (.if_icmp .ge 30, 3)), (57, (.aload_n 0, 1)), (58, (.getfield 100, 3)), (61, (.bipush 6, 2)), (63, (.aload_n 0, 1)), (64, (.getfield 106, 3)), (67, (.imul, 1)), (68, (.iload_n 3, 1)), (69, (.iadd, 1)), (70, (.laload, 1)), (71, (.lload_n 1, 1)), (72, (.lcmp, 1)), (73, (.ifCond .ne 5, 3)), (76, (.iconst 1, 1)), (77, (.ireturn, 1)), (78, (.iinc 3 1, 3)), (81, (.goto (-37), 3)), (84, (.iconst 0, 1)), (85, (.ireturn, 1))]
theorem dsX12_isNamed_0_ok : (dsX12_isNamed_0.all fun q => decide (decode cX12_isNamed q.1 = .ok q.2)) = true := by decide +kernel
theorem dX12_isNamed_0 : decode cX12_isNamed 0 = .ok (.iconst 0, 1) := of_decide_eq_true (List.all_eq_true.mp dsX12_isNamed_0_ok (0, (.iconst 0, 1)) (List.mem_of_getElem? (i := 0) rfl))
theorem dX12_isNamed_1 : decode cX12_isNamed 1 = .ok (.istore_n 3, 1) := of_decide_eq_true (List.all_eq_true.mp dsX12_isNamed_0_ok (1, (.istore_n 3, 1)) (List.mem_of_getElem? (i := 1) rfl))
theorem dX12_isNamed_2 : decode cX12_isNamed 2 = .ok (.iload_n 3, 1) := of_decide_eq_true (List.all_eq_true.mp dsX12_isNamed_0_ok (2, (.iload_n 3, 1)) (List.mem_of_getElem? (i := 2) rfl))
theorem dX12_isNamed_3 : decode cX12_isNamed 3 = .ok (.aload_n 0, 1) := of_decide_eq_true (List.all_eq_true.mp dsX12_isNamed_0_ok (3, (.aload_n 0, 1)) (List.mem_of_getElem? (i := 3) rfl))
theorem dX12_isNamed_4 : decode cX12_isNamed 4 = .ok (.getfield 66, 3) := of_decide_eq_true (List.all_eq_true.mp dsX12_isNamed_0_ok (4, (.getfield 66, 3)) (List.mem_of_getElem? (i := 4) rfl))
theorem dX12_isNamed_7 : decode cX12_isNamed 7 = .ok (.aload_n 0, 1) := of_decide_eq_true (List.all_eq_true.mp dsX12_isNamed_0_ok (7, (.aload_n 0, 1)) (List.mem_of_getElem? (i := 5) rfl))
theorem dX12_isNamed_8 : decode cX12_isNamed 8 = .ok (.getfield 106, 3) := of_decide_eq_true (List.all_eq_true.mp dsX12_isNamed_0_ok (8, (.getfield 106, 3)) (List.mem_of_getElem? (i := 6) rfl))
theorem dX12_isNamed_11 : decode cX12_isNamed 11 = .ok (.iaload, 1) := of_decide_eq_true (List.all_eq_true.mp dsX12_isNamed_0_ok (11, (.iaload, 1)) (List.mem_of_getElem? (i := 7) rfl))
theorem dX12_isNamed_12 : decode cX12_isNamed 12 = .ok (.if_icmp .ge 30, 3) := of_decide_eq_true (List.all_eq_true.mp dsX12_isNamed_0_ok (12, (.if_icmp .ge 30, 3)) (List.mem_of_getElem? (i := 8) rfl))
theorem dX12_isNamed_15 : decode cX12_isNamed 15 = .ok (.aload_n 0, 1) := of_decide_eq_true (List.all_eq_true.mp dsX12_isNamed_0_ok (15, (.aload_n 0, 1)) (List.mem_of_getElem? (i := 9) rfl))
theorem dX12_isNamed_16 : decode cX12_isNamed 16 = .ok (.getfield 96, 3) := of_decide_eq_true (List.all_eq_true.mp dsX12_isNamed_0_ok (16, (.getfield 96, 3)) (List.mem_of_getElem? (i := 10) rfl))
theorem dX12_isNamed_19 : decode cX12_isNamed 19 = .ok (.bipush 7, 2) := of_decide_eq_true (List.all_eq_true.mp dsX12_isNamed_0_ok (19, (.bipush 7, 2)) (List.mem_of_getElem? (i := 11) rfl))
theorem dX12_isNamed_21 : decode cX12_isNamed 21 = .ok (.aload_n 0, 1) := of_decide_eq_true (List.all_eq_true.mp dsX12_isNamed_0_ok (21, (.aload_n 0, 1)) (List.mem_of_getElem? (i := 12) rfl))
theorem dX12_isNamed_22 : decode cX12_isNamed 22 = .ok (.getfield 106, 3) := of_decide_eq_true (List.all_eq_true.mp dsX12_isNamed_0_ok (22, (.getfield 106, 3)) (List.mem_of_getElem? (i := 13) rfl))
theorem dX12_isNamed_25 : decode cX12_isNamed 25 = .ok (.imul, 1) := of_decide_eq_true (List.all_eq_true.mp dsX12_isNamed_0_ok (25, (.imul, 1)) (List.mem_of_getElem? (i := 14) rfl))
theorem dX12_isNamed_26 : decode cX12_isNamed 26 = .ok (.iload_n 3, 1) := of_decide_eq_true (List.all_eq_true.mp dsX12_isNamed_0_ok (26, (.iload_n 3, 1)) (List.mem_of_getElem? (i := 15) rfl))
theorem dX12_isNamed_27 : decode cX12_isNamed 27 = .ok (.iadd, 1) := of_decide_eq_true (List.all_eq_true.mp dsX12_isNamed_0_ok (27, (.iadd, 1)) (List.mem_of_getElem? (i := 16) rfl))
theorem dX12_isNamed_28 : decode cX12_isNamed 28 = .ok (.laload, 1) := of_decide_eq_true (List.all_eq_true.mp dsX12_isNamed_0_ok (28, (.laload, 1)) (List.mem_of_getElem? (i := 17) rfl))
theorem dX12_isNamed_29 : decode cX12_isNamed 29 = .ok (.lload_n 1, 1) := of_decide_eq_true (List.all_eq_true.mp dsX12_isNamed_0_ok (29, (.lload_n 1, 1)) (List.mem_of_getElem? (i := 18) rfl))
theorem dX12_isNamed_30 : decode cX12_isNamed 30 = .ok (.lcmp, 1) := of_decide_eq_true (List.all_eq_true.mp dsX12_isNamed_0_ok (30, (.lcmp, 1)) (List.mem_of_getElem? (i := 19) rfl))
theorem dX12_isNamed_31 : decode cX12_isNamed 31 = .ok (.ifCond .ne 5, 3) := of_decide_eq_true (List.all_eq_true.mp dsX12_isNamed_0_ok (31, (.ifCond .ne 5, 3)) (List.mem_of_getElem? (i := 20) rfl))
theorem dX12_isNamed_34 : decode cX12_isNamed 34 = .ok (.iconst 1, 1) := of_decide_eq_true (List.all_eq_true.mp dsX12_isNamed_0_ok (34, (.iconst 1, 1)) (List.mem_of_getElem? (i := 21) rfl))
theorem dX12_isNamed_35 : decode cX12_isNamed 35 = .ok (.ireturn, 1) := of_decide_eq_true (List.all_eq_true.mp dsX12_isNamed_0_ok (35, (.ireturn, 1)) (List.mem_of_getElem? (i := 22) rfl))
theorem dX12_isNamed_36 : decode cX12_isNamed 36 = .ok (.iinc 3 1, 3) := of_decide_eq_true (List.all_eq_true.mp dsX12_isNamed_0_ok (36, (.iinc 3 1, 3)) (List.mem_of_getElem? (i := 23) rfl))
theorem dX12_isNamed_39 : decode cX12_isNamed 39 = .ok (.goto (-37), 3) := of_decide_eq_true (List.all_eq_true.mp dsX12_isNamed_0_ok (39, (.goto (-37), 3)) (List.mem_of_getElem? (i := 24) rfl))
theorem dX12_isNamed_42 : decode cX12_isNamed 42 = .ok (.iconst 0, 1) := of_decide_eq_true (List.all_eq_true.mp dsX12_isNamed_0_ok (42, (.iconst 0, 1)) (List.mem_of_getElem? (i := 25) rfl))
theorem dX12_isNamed_43 : decode cX12_isNamed 43 = .ok (.istore_n 3, 1) := of_decide_eq_true (List.all_eq_true.mp dsX12_isNamed_0_ok (43, (.istore_n 3, 1)) (List.mem_of_getElem? (i := 26) rfl))
theorem dX12_isNamed_44 : decode cX12_isNamed 44 = .ok (.iload_n 3, 1) := of_decide_eq_true (List.all_eq_true.mp dsX12_isNamed_0_ok (44, (.iload_n 3, 1)) (List.mem_of_getElem? (i := 27) rfl))
theorem dX12_isNamed_45 : decode cX12_isNamed 45 = .ok (.aload_n 0, 1) := of_decide_eq_true (List.all_eq_true.mp dsX12_isNamed_0_ok (45, (.aload_n 0, 1)) (List.mem_of_getElem? (i := 28) rfl))
theorem dX12_isNamed_46 : decode cX12_isNamed 46 = .ok (.getfield 75, 3) := of_decide_eq_true (List.all_eq_true.mp dsX12_isNamed_0_ok (46, (.getfield 75, 3)) (List.mem_of_getElem? (i := 29) rfl))
theorem dX12_isNamed_49 : decode cX12_isNamed 49 = .ok (.aload_n 0, 1) := of_decide_eq_true (List.all_eq_true.mp dsX12_isNamed_0_ok (49, (.aload_n 0, 1)) (List.mem_of_getElem? (i := 30) rfl))
theorem dX12_isNamed_50 : decode cX12_isNamed 50 = .ok (.getfield 106, 3) := of_decide_eq_true (List.all_eq_true.mp dsX12_isNamed_0_ok (50, (.getfield 106, 3)) (List.mem_of_getElem? (i := 31) rfl))
theorem dX12_isNamed_53 : decode cX12_isNamed 53 = .ok (.iaload, 1) := of_decide_eq_true (List.all_eq_true.mp dsX12_isNamed_0_ok (53, (.iaload, 1)) (List.mem_of_getElem? (i := 32) rfl))
theorem dX12_isNamed_54 : decode cX12_isNamed 54 = .ok (.if_icmp .ge 30, 3) := of_decide_eq_true (List.all_eq_true.mp dsX12_isNamed_0_ok (54, (.if_icmp .ge 30, 3)) (List.mem_of_getElem? (i := 33) rfl))
theorem dX12_isNamed_57 : decode cX12_isNamed 57 = .ok (.aload_n 0, 1) := of_decide_eq_true (List.all_eq_true.mp dsX12_isNamed_0_ok (57, (.aload_n 0, 1)) (List.mem_of_getElem? (i := 34) rfl))
theorem dX12_isNamed_58 : decode cX12_isNamed 58 = .ok (.getfield 100, 3) := of_decide_eq_true (List.all_eq_true.mp dsX12_isNamed_0_ok (58, (.getfield 100, 3)) (List.mem_of_getElem? (i := 35) rfl))
theorem dX12_isNamed_61 : decode cX12_isNamed 61 = .ok (.bipush 6, 2) := of_decide_eq_true (List.all_eq_true.mp dsX12_isNamed_0_ok (61, (.bipush 6, 2)) (List.mem_of_getElem? (i := 36) rfl))
theorem dX12_isNamed_63 : decode cX12_isNamed 63 = .ok (.aload_n 0, 1) := of_decide_eq_true (List.all_eq_true.mp dsX12_isNamed_0_ok (63, (.aload_n 0, 1)) (List.mem_of_getElem? (i := 37) rfl))
theorem dX12_isNamed_64 : decode cX12_isNamed 64 = .ok (.getfield 106, 3) := of_decide_eq_true (List.all_eq_true.mp dsX12_isNamed_0_ok (64, (.getfield 106, 3)) (List.mem_of_getElem? (i := 38) rfl))
theorem dX12_isNamed_67 : decode cX12_isNamed 67 = .ok (.imul, 1) := of_decide_eq_true (List.all_eq_true.mp dsX12_isNamed_0_ok (67, (.imul, 1)) (List.mem_of_getElem? (i := 39) rfl))
theorem dX12_isNamed_68 : decode cX12_isNamed 68 = .ok (.iload_n 3, 1) := of_decide_eq_true (List.all_eq_true.mp dsX12_isNamed_0_ok (68, (.iload_n 3, 1)) (List.mem_of_getElem? (i := 40) rfl))
theorem dX12_isNamed_69 : decode cX12_isNamed 69 = .ok (.iadd, 1) := of_decide_eq_true (List.all_eq_true.mp dsX12_isNamed_0_ok (69, (.iadd, 1)) (List.mem_of_getElem? (i := 41) rfl))
theorem dX12_isNamed_70 : decode cX12_isNamed 70 = .ok (.laload, 1) := of_decide_eq_true (List.all_eq_true.mp dsX12_isNamed_0_ok (70, (.laload, 1)) (List.mem_of_getElem? (i := 42) rfl))
theorem dX12_isNamed_71 : decode cX12_isNamed 71 = .ok (.lload_n 1, 1) := of_decide_eq_true (List.all_eq_true.mp dsX12_isNamed_0_ok (71, (.lload_n 1, 1)) (List.mem_of_getElem? (i := 43) rfl))
theorem dX12_isNamed_72 : decode cX12_isNamed 72 = .ok (.lcmp, 1) := of_decide_eq_true (List.all_eq_true.mp dsX12_isNamed_0_ok (72, (.lcmp, 1)) (List.mem_of_getElem? (i := 44) rfl))
theorem dX12_isNamed_73 : decode cX12_isNamed 73 = .ok (.ifCond .ne 5, 3) := of_decide_eq_true (List.all_eq_true.mp dsX12_isNamed_0_ok (73, (.ifCond .ne 5, 3)) (List.mem_of_getElem? (i := 45) rfl))
theorem dX12_isNamed_76 : decode cX12_isNamed 76 = .ok (.iconst 1, 1) := of_decide_eq_true (List.all_eq_true.mp dsX12_isNamed_0_ok (76, (.iconst 1, 1)) (List.mem_of_getElem? (i := 46) rfl))
theorem dX12_isNamed_77 : decode cX12_isNamed 77 = .ok (.ireturn, 1) := of_decide_eq_true (List.all_eq_true.mp dsX12_isNamed_0_ok (77, (.ireturn, 1)) (List.mem_of_getElem? (i := 47) rfl))
theorem dX12_isNamed_78 : decode cX12_isNamed 78 = .ok (.iinc 3 1, 3) := of_decide_eq_true (List.all_eq_true.mp dsX12_isNamed_0_ok (78, (.iinc 3 1, 3)) (List.mem_of_getElem? (i := 48) rfl))
theorem dX12_isNamed_81 : decode cX12_isNamed 81 = .ok (.goto (-37), 3) := of_decide_eq_true (List.all_eq_true.mp dsX12_isNamed_0_ok (81, (.goto (-37), 3)) (List.mem_of_getElem? (i := 49) rfl))
theorem dX12_isNamed_84 : decode cX12_isNamed 84 = .ok (.iconst 0, 1) := of_decide_eq_true (List.all_eq_true.mp dsX12_isNamed_0_ok (84, (.iconst 0, 1)) (List.mem_of_getElem? (i := 50) rfl))
theorem dX12_isNamed_85 : decode cX12_isNamed 85 = .ok (.ireturn, 1) := of_decide_eq_true (List.all_eq_true.mp dsX12_isNamed_0_ok (85, (.ireturn, 1)) (List.mem_of_getElem? (i := 51) rfl))
def fX12_isNamed_l44 (N : Nat) (mmI : Nat → Int32) (mm_earsF : Nat → Int32) (mm_earNameL : Nat → Int64) (mm_placesF : Nat → Int32) (mm_placeNameL : Nat → Int64)  (k44 : (Int64 × Int32) → Option (Int32)) : (Int64 × Int32) → Option (Int32) :=
  fun (x1_44, x3_44) => (xq_bd (xq_ald 2 mm_placesF (mmI 31)) fun v_1 => (if v_1 ≤ x3_44 then some 0 else (xq_bd (xq_aldL 12 mm_placeNameL ((6 * (mmI 31)) + x3_44)) fun v_2 => (if (lg_cmp v_2 x1_44) = 0 then some 1 else k44 (x1_44, x3_44 + 1)))))
def fX12_isNamed_l2 (N : Nat) (mmI : Nat → Int32) (mm_earsF : Nat → Int32) (mm_earNameL : Nat → Int64) (mm_placesF : Nat → Int32) (mm_placeNameL : Nat → Int64)  (k2 : (Int64 × Int32) → Option (Int32)) : (Int64 × Int32) → Option (Int32) :=
  fun (x1_2, x3_2) => (xq_bd (xq_ald 2 mm_earsF (mmI 31)) fun v_3 => (if v_3 ≤ x3_2 then xq_loop (fX12_isNamed_l44 N mmI mm_earsF mm_earNameL mm_placesF mm_placeNameL) N (x1_2, 0) else (xq_bd (xq_aldL 14 mm_earNameL ((7 * (mmI 31)) + x3_2)) fun v_4 => (if (lg_cmp v_4 x1_2) = 0 then some 1 else k2 (x1_2, x3_2 + 1)))))
def fX12_isNamed (N : Nat) (mmI : Nat → Int32) (mm_earsF : Nat → Int32) (mm_earNameL : Nat → Int64) (mm_placesF : Nat → Int32) (mm_placeNameL : Nat → Int64)  (p1 : Int64) : Option (Int32) :=
  xq_loop (fX12_isNamed_l2 N mmI mm_earsF mm_earNameL mm_placesF mm_placeNameL) N (p1, 0)
set_option maxHeartbeats 4000000 in
set_option maxRecDepth 100000 in
theorem kX12_isNamed (l : Launch) (dC : Nat → ClassId) (dI : Nat → Nat → Nat) (cI cB cJ cZ cM : ClassId) (z : Nat) (ad : Nat → Nat) (N : Nat) (a_p0 : Nat) (mmI : Nat → Int32) (mmJ : Nat → Int64) (mmR : Nat → Nat) (mm_earsF : Nat → Int32) (mm_earNameL : Nat → Int64) (mm_placesF : Nat → Int32) (mm_placeNameL : Nat → Int64) (p1 : Int64) {r0 : Int32} (hf : fX12_isNamed N mmI mm_earsF mm_earNameL mm_placesF mm_placeNameL p1 = some r0) : xq_Ct l yX12_isNamed wsX12_isNamed { frames := 0, cells := 0, slots := 0, locals := 0 } (dC, dI) vwCl (xq_tys cI cB cJ cZ cM) z ad [.ref a_p0, .long p1] [(a_p0, .inr (12, oX12 mmI mmJ mmR)), ((mmR 18), .inl (cI, 2, .inl mm_earsF)), ((mmR 28), .inl (cJ, 14, .inr (.inl mm_earNameL))), ((mmR 21), .inl (cI, 2, .inl mm_placesF)), ((mmR 29), .inl (cJ, 12, .inr (.inl mm_placeNameL)))] [(a_p0, .inr (12, oX12 mmI mmJ mmR)), ((mmR 18), .inl (cI, 2, .inl mm_earsF)), ((mmR 28), .inl (cJ, 14, .inr (.inl mm_earNameL))), ((mmR 21), .inl (cI, 2, .inl mm_placesF)), ((mmR 29), .inl (cJ, 12, .inr (.inl mm_placeNameL)))] (some (.int r0)) := by
  intro sz
  refine Met.ofW (cc := cX12_isNamed) (maxL := 4) (ret := (some .boolean)) (by decide) rfl ?_
  intro p e s m args below meth c s₁ B hml hv
  obtain ⟨rfl, hsz, hP, hK, hD0, hE, hz⟩ := hv
  have hx := B.exec
  have hb := B.bytes
  have hr := B.returns
  have hts := atoms_spec (ws := wsX12_isNamed) B.pre
  have hown : s.vm.findClass RX12 = some m.cls := findClass_of_methodNamed B.named
  have hlocks := B.notSynchronized
  subst hsz
  have hD := hD0.self (sz := s.heap.size)
  have hN := xq_Env.of hE hz hD0
  generalize hAe : va_A [(a_p0, .inr (12, oX12 mmI mmJ mmR)), ((mmR 18), .inl (cI, 2, .inl mm_earsF)), ((mmR 28), .inl (cJ, 14, .inr (.inl mm_earNameL))), ((mmR 21), .inl (cI, 2, .inl mm_placesF)), ((mmR 29), .inl (cJ, 12, .inr (.inl mm_placeNameL)))] s.heap.size = A at hD hN ⊢
  have hA : ∀ q : Nat, s.heap.size ≤ q → A q := fun q h => by rw [← hAe]; exact Or.inr h
  clear hAe hD0
  have hS : va_S A s.heap s.heap [] := va_S.rf
  have hl := lv_entry ([.ref a_p0, .long p1]) (n := 4) (Nat.le_of_ble_eq_true rfl)
  rw [lg_entry_eq]
  generalize (lg_sl ([.ref a_p0, .long p1]) ++ List.replicate (4 - (lg_sl ([.ref a_p0, .long p1])).length) Slot.unset).toArray = ls at hl ⊢
  have hl : lv_has ls 4 [(0, .ref a_p0), (1, .long p1)] := hl
  have hw0 := hts (.fieldLink RX12 66 "DistantVoiceModel" "ears" "[I") (by decide +kernel)
  have hinX12 : ∀ w ∈ wsX120, w ∈ wsX12_isNamed := fun w h => List.mem_cons_of_mem _ (List.mem_append_right _ h)
  have hw2 := hts (.fieldLink RX12 106 "DistantVoiceModel" "in" "I") (by decide +kernel)
  have hw3 := hts (.fieldLink RX12 96 "DistantVoiceModel" "earName" "[J") (by decide +kernel)
  have hw4 := hts (.fieldLink RX12 75 "DistantVoiceModel" "places" "[I") (by decide +kernel)
  have hw5 := hts (.fieldLink RX12 100 "DistantVoiceModel" "placeName" "[J") (by decide +kernel)
  have l44 : ∀ n44 : Nat, ∀ (x1_44 : Int64) (x3_44 : Int32) (ls : Array Slot) (H : Heap) (locs : List Loc), xq_loop (fX12_isNamed_l44 N mmI mm_earsF mm_earNameL mm_placesF mm_placeNameL) n44 (x1_44, x3_44) = some r0 → va_P (dC, dI) vwCl [(a_p0, .inr (12, oX12 mmI mmJ mmR)), ((mmR 18), .inl (cI, 2, .inl mm_earsF)), ((mmR 28), .inl (cJ, 14, .inr (.inl mm_earNameL))), ((mmR 21), .inl (cI, 2, .inl mm_placesF)), ((mmR 29), .inl (cJ, 12, .inr (.inl mm_placeNameL)))] H → va_D A [(a_p0, .inr (12, oX12 mmI mmJ mmR)), ((mmR 18), .inl (cI, 2, .inl mm_earsF)), ((mmR 28), .inl (cJ, 14, .inr (.inl mm_earNameL))), ((mmR 21), .inl (cI, 2, .inl mm_placesF)), ((mmR 29), .inl (cJ, 12, .inr (.inl mm_placeNameL)))] → va_S A s.heap H locs → lv_has ls 4 [(0, .ref a_p0), (1, .long x1_44), (3, .int x3_44)] → W p l e (headSpec wsX12_isNamed { frames := 0, cells := 0, slots := 0, locals := 0 }).room s m [.ref a_p0, .long p1].toArray below meth c H locs 0 0 (MQ below (xq_Q (dC, dI) vwCl (xq_tys cI cB cJ cZ cM) A [(a_p0, .inr (12, oX12 mmI mmJ mmR)), ((mmR 18), .inl (cI, 2, .inl mm_earsF)), ((mmR 28), .inl (cJ, 14, .inr (.inl mm_earNameL))), ((mmR 21), .inl (cI, 2, .inl mm_placesF)), ((mmR 29), .inl (cJ, 12, .inr (.inl mm_placeNameL)))] (some (.int r0))) [.ref a_p0, .long p1].toArray s 0 0 A) (F0 m 44 ls []) := by
    intro n44
    induction n44 with
    | zero => intro x1_44 x3_44 ls H locs hf; cases (show none = some r0 from hf)
    | succ n44 ih44 =>
      intro x1_44 x3_44 ls H locs hf hP hD hS hl
      have hf : fX12_isNamed_l44 N mmI mm_earsF mm_earNameL mm_placesF mm_placeNameL (xq_loop (fX12_isNamed_l44 N mmI mm_earsF mm_earNameL mm_placesF mm_placeNameL) n44) (x1_44, x3_44) = some r0 := hf
      unfold fX12_isNamed_l44 at hf
      refine lv_iload_n hx hb dX12_isNamed_44 rfl (lv_at hl 2 rfl) ?_
      refine lv_aload_n hx hb dX12_isNamed_45 rfl (lv_at hl 0 rfl) ?_
      refine va_get (D := (dC, dI)) (ci := 12) (v := .ref ((mmR 21))) (C := RX12) (T := TX12) (N := 70) hx hb hts hinX12 hown hK hP 0 rfl rfl 21 (by decide) hw4 (fun _ h9 => h9) rfl dX12_isNamed_46 ?_
      refine lv_aload_n hx hb dX12_isNamed_49 rfl (lv_at hl 0 rfl) ?_
      refine va_get (D := (dC, dI)) (ci := 12) (v := .int (mmI 31)) (C := RX12) (T := TX12) (N := 70) hx hb hts hinX12 hown hK hP 0 rfl rfl 31 (by decide) hw2 (fun _ h9 => h9) rfl dX12_isNamed_50 ?_
      refine xq_iald hx hb hK hP 3 0 rfl rfl hf dX12_isNamed_53 (fun v_1 hf => ?_)
      refine lv_icmp_ge (tgt := 84) hx hb dX12_isNamed_54 (by decide) (fun c_ => ?_) (fun c_ => ?_)
      · have hf := xq_pos hf c_
        refine lv_iconst (v := 0) hx hb dX12_isNamed_84 (by decide) ?_
        have hP9 := hP
        have hD9 := hD
        have hS9 := hS
        cases hf
        exact xq_zret hx hb hr (by decide +kernel) hlocks hK hP9 hD9 hS9 dX12_isNamed_85
      · have hf := xq_neg hf c_
        refine lv_aload_n hx hb dX12_isNamed_57 rfl (lv_at hl 0 rfl) ?_
        refine va_get (D := (dC, dI)) (ci := 12) (v := .ref ((mmR 29))) (C := RX12) (T := TX12) (N := 70) hx hb hts hinX12 hown hK hP 0 rfl rfl 29 (by decide) hw5 (fun _ h9 => h9) rfl dX12_isNamed_58 ?_
        refine lv_bipush (v := 6) hx hb dX12_isNamed_61 (by decide) ?_
        refine lv_aload_n hx hb dX12_isNamed_63 rfl (lv_at hl 0 rfl) ?_
        refine va_get (D := (dC, dI)) (ci := 12) (v := .int (mmI 31)) (C := RX12) (T := TX12) (N := 70) hx hb hts hinX12 hown hK hP 0 rfl rfl 31 (by decide) hw2 (fun _ h9 => h9) rfl dX12_isNamed_64 ?_
        refine lv_imul hx hb dX12_isNamed_67 ?_
        refine lv_iload_n hx hb dX12_isNamed_68 rfl (lv_at hl 2 rfl) ?_
        refine lv_iadd hx hb dX12_isNamed_69 ?_
        refine xq_lald hx hb hK hP 4 2 rfl rfl hf dX12_isNamed_70 (fun v_2 hf => ?_)
        refine lv_lload_n hx hb dX12_isNamed_71 rfl (lv_at hl 1 rfl) ?_
        refine W.lcmp hx hb dX12_isNamed_72 ?_
        refine lv_if_ne (tgt := 78) hx hb dX12_isNamed_73 (by decide) (fun c_ => ?_) (fun c_ => ?_)
        · have hf := xq_neg hf c_
          refine lv_iinc (v := x3_44 + 1) (lv' := [(3, .int (x3_44 + 1)), (0, .ref a_p0), (1, .long x1_44)]) hx hb dX12_isNamed_78 hl (k := 2) rfl (congrArg (fun q9 => x3_44 + q9) (by decide : Int32.ofInt 1 = 1)) (by decide) rfl (fun ls hl => ?_)
          refine lv_goto (tgt := 44) hx hb dX12_isNamed_81 (by decide) ?_
          exact ih44 x1_44 (x3_44 + 1) _ _ _ hf hP hD hS (lv_sub hl [1, 2, 0] rfl)
        · have hf := xq_pos hf c_
          refine lv_iconst (v := 1) hx hb dX12_isNamed_76 (by decide) ?_
          have hP9 := hP
          have hD9 := hD
          have hS9 := hS
          cases hf
          exact xq_zret hx hb hr (by decide +kernel) hlocks hK hP9 hD9 hS9 dX12_isNamed_77
  have l2 : ∀ n2 : Nat, ∀ (x1_2 : Int64) (x3_2 : Int32) (ls : Array Slot) (H : Heap) (locs : List Loc), xq_loop (fX12_isNamed_l2 N mmI mm_earsF mm_earNameL mm_placesF mm_placeNameL) n2 (x1_2, x3_2) = some r0 → va_P (dC, dI) vwCl [(a_p0, .inr (12, oX12 mmI mmJ mmR)), ((mmR 18), .inl (cI, 2, .inl mm_earsF)), ((mmR 28), .inl (cJ, 14, .inr (.inl mm_earNameL))), ((mmR 21), .inl (cI, 2, .inl mm_placesF)), ((mmR 29), .inl (cJ, 12, .inr (.inl mm_placeNameL)))] H → va_D A [(a_p0, .inr (12, oX12 mmI mmJ mmR)), ((mmR 18), .inl (cI, 2, .inl mm_earsF)), ((mmR 28), .inl (cJ, 14, .inr (.inl mm_earNameL))), ((mmR 21), .inl (cI, 2, .inl mm_placesF)), ((mmR 29), .inl (cJ, 12, .inr (.inl mm_placeNameL)))] → va_S A s.heap H locs → lv_has ls 4 [(0, .ref a_p0), (1, .long x1_2), (3, .int x3_2)] → W p l e (headSpec wsX12_isNamed { frames := 0, cells := 0, slots := 0, locals := 0 }).room s m [.ref a_p0, .long p1].toArray below meth c H locs 0 0 (MQ below (xq_Q (dC, dI) vwCl (xq_tys cI cB cJ cZ cM) A [(a_p0, .inr (12, oX12 mmI mmJ mmR)), ((mmR 18), .inl (cI, 2, .inl mm_earsF)), ((mmR 28), .inl (cJ, 14, .inr (.inl mm_earNameL))), ((mmR 21), .inl (cI, 2, .inl mm_placesF)), ((mmR 29), .inl (cJ, 12, .inr (.inl mm_placeNameL)))] (some (.int r0))) [.ref a_p0, .long p1].toArray s 0 0 A) (F0 m 2 ls []) := by
    intro n2
    induction n2 with
    | zero => intro x1_2 x3_2 ls H locs hf; cases (show none = some r0 from hf)
    | succ n2 ih2 =>
      intro x1_2 x3_2 ls H locs hf hP hD hS hl
      have hf : fX12_isNamed_l2 N mmI mm_earsF mm_earNameL mm_placesF mm_placeNameL (xq_loop (fX12_isNamed_l2 N mmI mm_earsF mm_earNameL mm_placesF mm_placeNameL) n2) (x1_2, x3_2) = some r0 := hf
      unfold fX12_isNamed_l2 at hf
      refine lv_iload_n hx hb dX12_isNamed_2 rfl (lv_at hl 2 rfl) ?_
      refine lv_aload_n hx hb dX12_isNamed_3 rfl (lv_at hl 0 rfl) ?_
      refine va_get (D := (dC, dI)) (ci := 12) (v := .ref ((mmR 18))) (C := RX12) (T := TX12) (N := 70) hx hb hts hinX12 hown hK hP 0 rfl rfl 18 (by decide) hw0 (fun _ h9 => h9) rfl dX12_isNamed_4 ?_
      refine lv_aload_n hx hb dX12_isNamed_7 rfl (lv_at hl 0 rfl) ?_
      refine va_get (D := (dC, dI)) (ci := 12) (v := .int (mmI 31)) (C := RX12) (T := TX12) (N := 70) hx hb hts hinX12 hown hK hP 0 rfl rfl 31 (by decide) hw2 (fun _ h9 => h9) rfl dX12_isNamed_8 ?_
      refine xq_iald hx hb hK hP 1 0 rfl rfl hf dX12_isNamed_11 (fun v_1 hf => ?_)
      refine lv_icmp_ge (tgt := 42) hx hb dX12_isNamed_12 (by decide) (fun c_ => ?_) (fun c_ => ?_)
      · have hf := xq_pos hf c_
        refine lv_iconst (v := 0) hx hb dX12_isNamed_42 (by decide) ?_
        refine lv_istore_n (lv' := [(3, .int 0), (0, .ref a_p0), (1, .long x1_2)]) hx hb dX12_isNamed_43 rfl hl (by decide) rfl (fun ls hl => ?_)
        exact l44 N x1_2 0 _ _ _ hf hP hD hS (lv_sub hl [1, 2, 0] rfl)
      · have hf := xq_neg hf c_
        refine lv_aload_n hx hb dX12_isNamed_15 rfl (lv_at hl 0 rfl) ?_
        refine va_get (D := (dC, dI)) (ci := 12) (v := .ref ((mmR 28))) (C := RX12) (T := TX12) (N := 70) hx hb hts hinX12 hown hK hP 0 rfl rfl 28 (by decide) hw3 (fun _ h9 => h9) rfl dX12_isNamed_16 ?_
        refine lv_bipush (v := 7) hx hb dX12_isNamed_19 (by decide) ?_
        refine lv_aload_n hx hb dX12_isNamed_21 rfl (lv_at hl 0 rfl) ?_
        refine va_get (D := (dC, dI)) (ci := 12) (v := .int (mmI 31)) (C := RX12) (T := TX12) (N := 70) hx hb hts hinX12 hown hK hP 0 rfl rfl 31 (by decide) hw2 (fun _ h9 => h9) rfl dX12_isNamed_22 ?_
        refine lv_imul hx hb dX12_isNamed_25 ?_
        refine lv_iload_n hx hb dX12_isNamed_26 rfl (lv_at hl 2 rfl) ?_
        refine lv_iadd hx hb dX12_isNamed_27 ?_
        refine xq_lald hx hb hK hP 2 2 rfl rfl hf dX12_isNamed_28 (fun v_2 hf => ?_)
        refine lv_lload_n hx hb dX12_isNamed_29 rfl (lv_at hl 1 rfl) ?_
        refine W.lcmp hx hb dX12_isNamed_30 ?_
        refine lv_if_ne (tgt := 36) hx hb dX12_isNamed_31 (by decide) (fun c_ => ?_) (fun c_ => ?_)
        · have hf := xq_neg hf c_
          refine lv_iinc (v := x3_2 + 1) (lv' := [(3, .int (x3_2 + 1)), (0, .ref a_p0), (1, .long x1_2)]) hx hb dX12_isNamed_36 hl (k := 2) rfl (congrArg (fun q9 => x3_2 + q9) (by decide : Int32.ofInt 1 = 1)) (by decide) rfl (fun ls hl => ?_)
          refine lv_goto (tgt := 2) hx hb dX12_isNamed_39 (by decide) ?_
          exact ih2 x1_2 (x3_2 + 1) _ _ _ hf hP hD hS (lv_sub hl [1, 2, 0] rfl)
        · have hf := xq_pos hf c_
          refine lv_iconst (v := 1) hx hb dX12_isNamed_34 (by decide) ?_
          have hP9 := hP
          have hD9 := hD
          have hS9 := hS
          cases hf
          exact xq_zret hx hb hr (by decide +kernel) hlocks hK hP9 hD9 hS9 dX12_isNamed_35
  unfold fX12_isNamed at hf
  refine lv_iconst (v := 0) hx hb dX12_isNamed_0 (by decide) ?_
  refine lv_istore_n (lv' := [(3, .int 0), (0, .ref a_p0), (1, .long p1)]) hx hb dX12_isNamed_1 rfl hl (by decide) rfl (fun ls hl => ?_)
  exact l2 N p1 0 _ _ _ hf hP hD hS (lv_sub hl [1, 2, 0] rfl)
set_option maxRecDepth 20000 in
theorem ggX12_number_X12_lex : GoodIn wsX12_number wsX12_lex := goodIn_r _ [9, 10, 11, 12, 13, 8, 14, 1, 15, 33, 34, 35, 36, 37, 38, 39, 40, 41, 42, 43, 44, 45, 46, 47, 48, 49, 50, 51, 52, 53, 54, 55, 56, 57, 58, 59, 60, 61, 62, 63, 64, 65, 66, 67, 68, 69, 70, 71, 72, 73, 74, 75, 76, 77, 78, 79, 80, 81, 82, 83, 84, 85, 86, 87, 88, 89, 90, 91, 92, 93, 94, 95, 96, 97, 98, 99, 100, 101, 102] rfl (by decide +kernel)
set_option maxRecDepth 20000 in
theorem gX12_number_X12_lex : GoodIn wsX12_number (wsV RX12 244 RX12 yX12_lex wsX12_lex) := goodIn_app (goodIn_of _ (by decide +kernel)) ggX12_number_X12_lex
set_option maxRecDepth 20000 in
theorem ggX12_number_X12_blame : GoodIn wsX12_number wsX12_blame := goodIn_r _ [14, 1, 15, 33, 34, 35, 36, 37, 38, 39, 40, 41, 42, 43, 44, 45, 46, 47, 48, 49, 50, 51, 52, 53, 54, 55, 56, 57, 58, 59, 60, 61, 62, 63, 64, 65, 66, 67, 68, 69, 70, 71, 72, 73, 74, 75, 76, 77, 78, 79, 80, 81, 82, 83, 84, 85, 86, 87, 88, 89, 90, 91, 92, 93, 94, 95, 96, 97, 98, 99, 100, 101, 102] rfl (by decide +kernel)
set_option maxRecDepth 20000 in
theorem gX12_number_X12_blame : GoodIn wsX12_number (wsV RX12 233 RX12 yX12_blame wsX12_blame) := goodIn_app (goodIn_of _ (by decide +kernel)) ggX12_number_X12_blame
set_option maxRecDepth 20000 in
theorem ggX12_number_X12_is : GoodIn wsX12_number wsX12_is := goodIn_r _ [18] rfl (by decide +kernel)
set_option maxRecDepth 20000 in
theorem gX12_number_X12_is : GoodIn wsX12_number (va_wsS RX12 301 yX12_is wsX12_is) := goodIn_app (goodIn_of _ (by decide +kernel)) ggX12_number_X12_is
set_option maxRecDepth 20000 in
theorem ggX12_number_X12_ahead : GoodIn wsX12_number wsX12_ahead := goodIn_r _ [22, 23, 24, 25, 3, 2, 10, 4, 26, 27, 28, 8, 29, 30, 31, 32, 33, 34, 35, 36, 37, 38, 39, 40, 41, 42, 43, 44, 45, 46, 47, 48, 49, 50, 51, 52, 53, 54, 55, 56, 57, 58, 59, 60, 61, 62, 63, 64, 65, 66, 67, 68, 69, 70, 71, 72, 73, 74, 75, 76, 77, 78, 79, 80, 81, 82, 83, 84, 85, 86, 87, 88, 89, 90, 91, 92, 93, 94, 95, 96, 97, 98, 99, 100, 101, 102] rfl (by decide +kernel)
set_option maxRecDepth 20000 in
theorem gX12_number_X12_ahead : GoodIn wsX12_number (wsV RX12 250 RX12 yX12_ahead wsX12_ahead) := goodIn_app (goodIn_of _ (by decide +kernel)) ggX12_number_X12_ahead
def dsX12_number_0 : List (Nat × Instr × Nat) := [(0, (.aload_n 0, 1)), (1, (.invokevirtual 244, 3)), (4, (.aload_n 0, 1)), (5, (.getfield 36, 3)), (8, (.ifCond .le 5, 3)), (11, (.iconst 0, 1)), (12, (.ireturn, 1)), (13, (.aload_n 0, 1)), (14, (.getfield 20, 3)), (17, (.iconst 2, 1)), (18, (.if_icmp .eq 12, 3)), (21, (.aload_n 0, 1)), (22, (.iconst 1, 1)), (23, (.aload_n 0, 1)), (24, (.getfield 23, 3)), (27, (.invokevirtual 233, 3)), (30, (.aload_n 0, 1)), (31, (.getfield 36, 3)), (34, (.ifCond .ne 24, 3)), (37, (.aload_n 0, 1)), (38, (.getfield 29, 3)), (41, (.iload_n 1, 1)), (42, (.iload_n 2, 1)), (43, (.invokestatic 301, 3)), (46, (.ifCond .ne 12, 3)), (49, (.aload_n 0, 1)), (50, (.iconst 4, 1)), (51, (.aload_n 0, 1)), (52, (.getfield 23, 3)), (55, (.invokevirtual 233, 3)), (58, (.aload_n 0, 1)), (59, (.getfield 29, 3)), (62, (.istore_n 3, 1)), (63, (.aload_n 0, 1)), (64, (.getfield 36, 3)), (67, (.ifCond .ne 7, 3)), (70, (.aload_n 0, 1)), (71, (.invokevirtual 250, 3)), (74, (.iload_n 3, 1)), (75, (.ireturn, 1))]
theorem dsX12_number_0_ok : (dsX12_number_0.all fun q => decide (decode cX12_number q.1 = .ok q.2)) = true := by decide +kernel
theorem dX12_number_0 : decode cX12_number 0 = .ok (.aload_n 0, 1) := of_decide_eq_true (List.all_eq_true.mp dsX12_number_0_ok (0, (.aload_n 0, 1)) (List.mem_of_getElem? (i := 0) rfl))
theorem dX12_number_1 : decode cX12_number 1 = .ok (.invokevirtual 244, 3) := of_decide_eq_true (List.all_eq_true.mp dsX12_number_0_ok (1, (.invokevirtual 244, 3)) (List.mem_of_getElem? (i := 1) rfl))
theorem dX12_number_4 : decode cX12_number 4 = .ok (.aload_n 0, 1) := of_decide_eq_true (List.all_eq_true.mp dsX12_number_0_ok (4, (.aload_n 0, 1)) (List.mem_of_getElem? (i := 2) rfl))
theorem dX12_number_5 : decode cX12_number 5 = .ok (.getfield 36, 3) := of_decide_eq_true (List.all_eq_true.mp dsX12_number_0_ok (5, (.getfield 36, 3)) (List.mem_of_getElem? (i := 3) rfl))
theorem dX12_number_8 : decode cX12_number 8 = .ok (.ifCond .le 5, 3) := of_decide_eq_true (List.all_eq_true.mp dsX12_number_0_ok (8, (.ifCond .le 5, 3)) (List.mem_of_getElem? (i := 4) rfl))
theorem dX12_number_11 : decode cX12_number 11 = .ok (.iconst 0, 1) := of_decide_eq_true (List.all_eq_true.mp dsX12_number_0_ok (11, (.iconst 0, 1)) (List.mem_of_getElem? (i := 5) rfl))
theorem dX12_number_12 : decode cX12_number 12 = .ok (.ireturn, 1) := of_decide_eq_true (List.all_eq_true.mp dsX12_number_0_ok (12, (.ireturn, 1)) (List.mem_of_getElem? (i := 6) rfl))
theorem dX12_number_13 : decode cX12_number 13 = .ok (.aload_n 0, 1) := of_decide_eq_true (List.all_eq_true.mp dsX12_number_0_ok (13, (.aload_n 0, 1)) (List.mem_of_getElem? (i := 7) rfl))
theorem dX12_number_14 : decode cX12_number 14 = .ok (.getfield 20, 3) := of_decide_eq_true (List.all_eq_true.mp dsX12_number_0_ok (14, (.getfield 20, 3)) (List.mem_of_getElem? (i := 8) rfl))
theorem dX12_number_17 : decode cX12_number 17 = .ok (.iconst 2, 1) := of_decide_eq_true (List.all_eq_true.mp dsX12_number_0_ok (17, (.iconst 2, 1)) (List.mem_of_getElem? (i := 9) rfl))
theorem dX12_number_18 : decode cX12_number 18 = .ok (.if_icmp .eq 12, 3) := of_decide_eq_true (List.all_eq_true.mp dsX12_number_0_ok (18, (.if_icmp .eq 12, 3)) (List.mem_of_getElem? (i := 10) rfl))
theorem dX12_number_21 : decode cX12_number 21 = .ok (.aload_n 0, 1) := of_decide_eq_true (List.all_eq_true.mp dsX12_number_0_ok (21, (.aload_n 0, 1)) (List.mem_of_getElem? (i := 11) rfl))
theorem dX12_number_22 : decode cX12_number 22 = .ok (.iconst 1, 1) := of_decide_eq_true (List.all_eq_true.mp dsX12_number_0_ok (22, (.iconst 1, 1)) (List.mem_of_getElem? (i := 12) rfl))
theorem dX12_number_23 : decode cX12_number 23 = .ok (.aload_n 0, 1) := of_decide_eq_true (List.all_eq_true.mp dsX12_number_0_ok (23, (.aload_n 0, 1)) (List.mem_of_getElem? (i := 13) rfl))
theorem dX12_number_24 : decode cX12_number 24 = .ok (.getfield 23, 3) := of_decide_eq_true (List.all_eq_true.mp dsX12_number_0_ok (24, (.getfield 23, 3)) (List.mem_of_getElem? (i := 14) rfl))
theorem dX12_number_27 : decode cX12_number 27 = .ok (.invokevirtual 233, 3) := of_decide_eq_true (List.all_eq_true.mp dsX12_number_0_ok (27, (.invokevirtual 233, 3)) (List.mem_of_getElem? (i := 15) rfl))
theorem dX12_number_30 : decode cX12_number 30 = .ok (.aload_n 0, 1) := of_decide_eq_true (List.all_eq_true.mp dsX12_number_0_ok (30, (.aload_n 0, 1)) (List.mem_of_getElem? (i := 16) rfl))
theorem dX12_number_31 : decode cX12_number 31 = .ok (.getfield 36, 3) := of_decide_eq_true (List.all_eq_true.mp dsX12_number_0_ok (31, (.getfield 36, 3)) (List.mem_of_getElem? (i := 17) rfl))
theorem dX12_number_34 : decode cX12_number 34 = .ok (.ifCond .ne 24, 3) := of_decide_eq_true (List.all_eq_true.mp dsX12_number_0_ok (34, (.ifCond .ne 24, 3)) (List.mem_of_getElem? (i := 18) rfl))
theorem dX12_number_37 : decode cX12_number 37 = .ok (.aload_n 0, 1) := of_decide_eq_true (List.all_eq_true.mp dsX12_number_0_ok (37, (.aload_n 0, 1)) (List.mem_of_getElem? (i := 19) rfl))
theorem dX12_number_38 : decode cX12_number 38 = .ok (.getfield 29, 3) := of_decide_eq_true (List.all_eq_true.mp dsX12_number_0_ok (38, (.getfield 29, 3)) (List.mem_of_getElem? (i := 20) rfl))
theorem dX12_number_41 : decode cX12_number 41 = .ok (.iload_n 1, 1) := of_decide_eq_true (List.all_eq_true.mp dsX12_number_0_ok (41, (.iload_n 1, 1)) (List.mem_of_getElem? (i := 21) rfl))
theorem dX12_number_42 : decode cX12_number 42 = .ok (.iload_n 2, 1) := of_decide_eq_true (List.all_eq_true.mp dsX12_number_0_ok (42, (.iload_n 2, 1)) (List.mem_of_getElem? (i := 22) rfl))
theorem dX12_number_43 : decode cX12_number 43 = .ok (.invokestatic 301, 3) := of_decide_eq_true (List.all_eq_true.mp dsX12_number_0_ok (43, (.invokestatic 301, 3)) (List.mem_of_getElem? (i := 23) rfl))
theorem dX12_number_46 : decode cX12_number 46 = .ok (.ifCond .ne 12, 3) := of_decide_eq_true (List.all_eq_true.mp dsX12_number_0_ok (46, (.ifCond .ne 12, 3)) (List.mem_of_getElem? (i := 24) rfl))
theorem dX12_number_49 : decode cX12_number 49 = .ok (.aload_n 0, 1) := of_decide_eq_true (List.all_eq_true.mp dsX12_number_0_ok (49, (.aload_n 0, 1)) (List.mem_of_getElem? (i := 25) rfl))
theorem dX12_number_50 : decode cX12_number 50 = .ok (.iconst 4, 1) := of_decide_eq_true (List.all_eq_true.mp dsX12_number_0_ok (50, (.iconst 4, 1)) (List.mem_of_getElem? (i := 26) rfl))
theorem dX12_number_51 : decode cX12_number 51 = .ok (.aload_n 0, 1) := of_decide_eq_true (List.all_eq_true.mp dsX12_number_0_ok (51, (.aload_n 0, 1)) (List.mem_of_getElem? (i := 27) rfl))
theorem dX12_number_52 : decode cX12_number 52 = .ok (.getfield 23, 3) := of_decide_eq_true (List.all_eq_true.mp dsX12_number_0_ok (52, (.getfield 23, 3)) (List.mem_of_getElem? (i := 28) rfl))
theorem dX12_number_55 : decode cX12_number 55 = .ok (.invokevirtual 233, 3) := of_decide_eq_true (List.all_eq_true.mp dsX12_number_0_ok (55, (.invokevirtual 233, 3)) (List.mem_of_getElem? (i := 29) rfl))
theorem dX12_number_58 : decode cX12_number 58 = .ok (.aload_n 0, 1) := of_decide_eq_true (List.all_eq_true.mp dsX12_number_0_ok (58, (.aload_n 0, 1)) (List.mem_of_getElem? (i := 30) rfl))
theorem dX12_number_59 : decode cX12_number 59 = .ok (.getfield 29, 3) := of_decide_eq_true (List.all_eq_true.mp dsX12_number_0_ok (59, (.getfield 29, 3)) (List.mem_of_getElem? (i := 31) rfl))
theorem dX12_number_62 : decode cX12_number 62 = .ok (.istore_n 3, 1) := of_decide_eq_true (List.all_eq_true.mp dsX12_number_0_ok (62, (.istore_n 3, 1)) (List.mem_of_getElem? (i := 32) rfl))
theorem dX12_number_63 : decode cX12_number 63 = .ok (.aload_n 0, 1) := of_decide_eq_true (List.all_eq_true.mp dsX12_number_0_ok (63, (.aload_n 0, 1)) (List.mem_of_getElem? (i := 33) rfl))
theorem dX12_number_64 : decode cX12_number 64 = .ok (.getfield 36, 3) := of_decide_eq_true (List.all_eq_true.mp dsX12_number_0_ok (64, (.getfield 36, 3)) (List.mem_of_getElem? (i := 34) rfl))
theorem dX12_number_67 : decode cX12_number 67 = .ok (.ifCond .ne 7, 3) := of_decide_eq_true (List.all_eq_true.mp dsX12_number_0_ok (67, (.ifCond .ne 7, 3)) (List.mem_of_getElem? (i := 35) rfl))
theorem dX12_number_70 : decode cX12_number 70 = .ok (.aload_n 0, 1) := of_decide_eq_true (List.all_eq_true.mp dsX12_number_0_ok (70, (.aload_n 0, 1)) (List.mem_of_getElem? (i := 36) rfl))
theorem dX12_number_71 : decode cX12_number 71 = .ok (.invokevirtual 250, 3) := of_decide_eq_true (List.all_eq_true.mp dsX12_number_0_ok (71, (.invokevirtual 250, 3)) (List.mem_of_getElem? (i := 37) rfl))
theorem dX12_number_74 : decode cX12_number 74 = .ok (.iload_n 3, 1) := of_decide_eq_true (List.all_eq_true.mp dsX12_number_0_ok (74, (.iload_n 3, 1)) (List.mem_of_getElem? (i := 38) rfl))
theorem dX12_number_75 : decode cX12_number 75 = .ok (.ireturn, 1) := of_decide_eq_true (List.all_eq_true.mp dsX12_number_0_ok (75, (.ireturn, 1)) (List.mem_of_getElem? (i := 39) rfl))
def fX12_number_b58 (N : Nat) (mm_tapeF : Nat → Int32)   : ((Nat → Int32) × (Nat → Int64)) → Option (Int32 × (Nat → Int32) × (Nat → Int64)) :=
  fun (mmI_58, mmJ_58) => (if (mmI_58 8) = 0 then (xq_bd (fX12_ahead N mmI_58 mmJ_58 mm_tapeF) fun (r_1_0, r_1_1) => some ((mmI_58 6, r_1_0, r_1_1))) else some ((mmI_58 6, mmI_58, mmJ_58)))
def fX12_number_b30 (N : Nat) (mm_tapeF : Nat → Int32)   : ((Nat → Int32) × (Nat → Int64) × Int32 × Int32) → Option (Int32 × (Nat → Int32) × (Nat → Int64)) :=
  fun (mmI_30, mmJ_30, x1_30, x2_30) => (if (mmI_30 8) = 0 then (xq_bd (fX12_is N (mmI_30 6) x1_30 x2_30) fun r_3 => (if r_3 = 0 then (xq_bd (fX12_blame N mmI_30 4 (mmI_30 4)) fun r_5 => fX12_number_b58 N mm_tapeF (r_5, mmJ_30)) else fX12_number_b58 N mm_tapeF (mmI_30, mmJ_30))) else fX12_number_b58 N mm_tapeF (mmI_30, mmJ_30))
def fX12_number (N : Nat) (mmI : Nat → Int32) (mmJ : Nat → Int64) (mm_tapeF : Nat → Int32)  (p1 : Int32) (p2 : Int32) : Option (Int32 × (Nat → Int32) × (Nat → Int64)) :=
  (xq_bd (fX12_lex N mmI) fun r_1 => (if (r_1 8) ≤ 0 then (if (r_1 3) = 2 then fX12_number_b30 N mm_tapeF (r_1, mmJ, p1, p2) else (xq_bd (fX12_blame N r_1 1 (r_1 4)) fun r_3 => fX12_number_b30 N mm_tapeF (r_3, mmJ, p1, p2))) else some ((0, r_1, mmJ))))
set_option maxHeartbeats 4000000 in
set_option maxRecDepth 100000 in
theorem kX12_number (l : Launch) (dC : Nat → ClassId) (dI : Nat → Nat → Nat) (cI cB cJ cZ cM : ClassId) (z : Nat) (ad : Nat → Nat) (N : Nat) (a_p0 : Nat) (mmI : Nat → Int32) (mmJ : Nat → Int64) (mmR : Nat → Nat) (mm_tapeF : Nat → Int32) (p1 : Int32) (p2 : Int32) {r0 : Int32} {r1 : Nat → Int32} {r2 : Nat → Int64} (hf : fX12_number N mmI mmJ mm_tapeF p1 p2 = some (r0, r1, r2)) : xq_Ct l yX12_number wsX12_number { frames := 2, cells := 0, slots := 0, locals := 45 } (dC, dI) vwCl (xq_tys cI cB cJ cZ cM) z ad [.ref a_p0, .int p1, .int p2] [(a_p0, .inr (12, oX12 mmI mmJ mmR)), ((mmR 0), .inl (cI, 1800, .inl mm_tapeF))] [(a_p0, .inr (12, oX12 r1 r2 mmR)), ((mmR 0), .inl (cI, 1800, .inl mm_tapeF))] (some (.int r0)) := by
  intro sz
  refine Met.ofW (cc := cX12_number) (maxL := 4) (ret := (some .int)) (by decide) rfl ?_
  intro p e s m args below meth c s₁ B hml hv
  obtain ⟨rfl, hsz, hP, hK, hD0, hE, hz⟩ := hv
  have hx := B.exec
  have hb := B.bytes
  have hr := B.returns
  have hts := atoms_spec (ws := wsX12_number) B.pre
  have hown : s.vm.findClass RX12 = some m.cls := findClass_of_methodNamed B.named
  have hlocks := B.notSynchronized
  subst hsz
  have hD := hD0.self (sz := s.heap.size)
  have hN := xq_Env.of hE hz hD0
  generalize hAe : va_A [(a_p0, .inr (12, oX12 mmI mmJ mmR)), ((mmR 0), .inl (cI, 1800, .inl mm_tapeF))] s.heap.size = A at hD hN ⊢
  have hA : ∀ q : Nat, s.heap.size ≤ q → A q := fun q h => by rw [← hAe]; exact Or.inr h
  clear hAe hD0
  have hS : va_S A s.heap s.heap [] := va_S.rf
  have hl := lv_entry ([.ref a_p0, .int p1, .int p2]) (n := 4) (Nat.le_of_ble_eq_true rfl)
  rw [lg_entry_eq]
  generalize (lg_sl ([.ref a_p0, .int p1, .int p2]) ++ List.replicate (4 - (lg_sl ([.ref a_p0, .int p1, .int p2])).length) Slot.unset).toArray = ls at hl ⊢
  have hl : lv_has ls 4 [(0, .ref a_p0), (1, .int p1), (2, .int p2)] := hl
  have hw0 := hts (.fieldLink RX12 36 "DistantVoiceModel" "faultKind" "I") (by decide +kernel)
  have hinX12 : ∀ w ∈ wsX120, w ∈ wsX12_number := fun w h => List.mem_cons_of_mem _ (List.mem_append_right _ h)
  have hw2 := hts (.fieldLink RX12 20 "DistantVoiceModel" "sign" "I") (by decide +kernel)
  have hw3 := hts (.fieldLink RX12 23 "DistantVoiceModel" "signAt" "I") (by decide +kernel)
  have hw4 := hts (.fieldLink RX12 29 "DistantVoiceModel" "value" "I") (by decide +kernel)
  have b58 : ∀ (mmI_58 : Nat → Int32) (mmJ_58 : Nat → Int64) (ls : Array Slot) (H : Heap) (locs : List Loc), fX12_number_b58 N mm_tapeF (mmI_58, mmJ_58) = some (r0, r1, r2) → va_P (dC, dI) vwCl [(a_p0, .inr (12, oX12 mmI_58 mmJ_58 mmR)), ((mmR 0), .inl (cI, 1800, .inl mm_tapeF))] H → va_D A [(a_p0, .inr (12, oX12 mmI_58 mmJ_58 mmR)), ((mmR 0), .inl (cI, 1800, .inl mm_tapeF))] → va_S A s.heap H locs → lv_has ls 4 [(0, .ref a_p0)] → W p l e (headSpec wsX12_number { frames := 2, cells := 0, slots := 0, locals := 45 }).room s m [.ref a_p0, .int p1, .int p2].toArray below meth c H locs 0 0 (MQ below (xq_Q (dC, dI) vwCl (xq_tys cI cB cJ cZ cM) A [(a_p0, .inr (12, oX12 r1 r2 mmR)), ((mmR 0), .inl (cI, 1800, .inl mm_tapeF))] (some (.int r0))) [.ref a_p0, .int p1, .int p2].toArray s 0 0 A) (F0 m 58 ls []) := by
    intro mmI_58 mmJ_58 ls H locs hf hP hD hS hl
    unfold fX12_number_b58 at hf
    refine lv_aload_n hx hb dX12_number_58 rfl (lv_at hl 0 rfl) ?_
    refine va_get (D := (dC, dI)) (ci := 12) (v := .int (mmI_58 6)) (C := RX12) (T := TX12) (N := 70) hx hb hts hinX12 hown hK hP 0 rfl rfl 6 (by decide) hw4 (fun _ h9 => h9) rfl dX12_number_59 ?_
    refine lv_istore_n (lv' := [(3, .int (mmI_58 6)), (0, .ref a_p0)]) hx hb dX12_number_62 rfl hl (by decide) rfl (fun ls hl => ?_)
    refine lv_aload_n hx hb dX12_number_63 rfl (lv_at hl 1 rfl) ?_
    refine va_get (D := (dC, dI)) (ci := 12) (v := .int (mmI_58 8)) (C := RX12) (T := TX12) (N := 70) hx hb hts hinX12 hown hK hP 0 rfl rfl 8 (by decide) hw0 (fun _ h9 => h9) rfl dX12_number_64 ?_
    refine lv_if_ne (tgt := 74) hx hb dX12_number_67 (by decide) (fun c_ => ?_) (fun c_ => ?_)
    · have hf := xq_neg hf c_
      refine lv_iload_n hx hb dX12_number_74 rfl (lv_at hl 0 rfl) ?_
      have hP9 := hP
      have hD9 := hD
      have hS9 := hS
      cases hf
      exact xq_iret hx hb hr hlocks hK hP9 hD9 hS9 dX12_number_75
    · have hf := xq_pos hf c_
      refine lv_aload_n hx hb dX12_number_70 rfl (lv_at hl 1 rfl) ?_
      obtain ⟨⟨r_1_0, r_1_1⟩, h_2, hf⟩ := xq_bd_some hf
      refine xq_callV (As := []) (rest := []) (ci := 12) (q0 := 0) ⟨hx, hb, hml, hown, hts⟩ (kX12_ahead l dC dI cI cB cJ cZ cM z ad N a_p0 mmI_58 mmJ_58 mmR mm_tapeF h_2) (cwV 0 hts gX12_number_X12_ahead rfl rfl rfl (by decide +kernel) ⟨Nat.le_of_ble_eq_true rfl, Nat.le_of_ble_eq_true rfl⟩) hN hK hP hD hS hA [0, 1] (by decide) rfl rfl rfl rfl rfl rfl hl.1 rfl (Nat.le_of_ble_eq_true rfl) dX12_number_71 ⟨Nat.zero_le _, Nat.zero_le _⟩ (fun H locs hP hD hS => ?_)
      have hP : va_P (dC, dI) vwCl [(a_p0, .inr (12, oX12 r_1_0 r_1_1 mmR)), ((mmR 0), .inl (cI, 1800, .inl mm_tapeF))] H := hP
      have hD : va_D A [(a_p0, .inr (12, oX12 r_1_0 r_1_1 mmR)), ((mmR 0), .inl (cI, 1800, .inl mm_tapeF))] := hD
      refine W.eq (g2 := F0 m 74 ls []) rfl ?_
      refine lv_iload_n hx hb dX12_number_74 rfl (lv_at hl 0 rfl) ?_
      have hP9 := hP
      have hD9 := hD
      have hS9 := hS
      cases hf
      exact xq_iret hx hb hr hlocks hK hP9 hD9 hS9 dX12_number_75
  have b30 : ∀ (mmI_30 : Nat → Int32) (mmJ_30 : Nat → Int64) (x1_30 : Int32) (x2_30 : Int32) (ls : Array Slot) (H : Heap) (locs : List Loc), fX12_number_b30 N mm_tapeF (mmI_30, mmJ_30, x1_30, x2_30) = some (r0, r1, r2) → va_P (dC, dI) vwCl [(a_p0, .inr (12, oX12 mmI_30 mmJ_30 mmR)), ((mmR 0), .inl (cI, 1800, .inl mm_tapeF))] H → va_D A [(a_p0, .inr (12, oX12 mmI_30 mmJ_30 mmR)), ((mmR 0), .inl (cI, 1800, .inl mm_tapeF))] → va_S A s.heap H locs → lv_has ls 4 [(0, .ref a_p0), (1, .int x1_30), (2, .int x2_30)] → W p l e (headSpec wsX12_number { frames := 2, cells := 0, slots := 0, locals := 45 }).room s m [.ref a_p0, .int p1, .int p2].toArray below meth c H locs 0 0 (MQ below (xq_Q (dC, dI) vwCl (xq_tys cI cB cJ cZ cM) A [(a_p0, .inr (12, oX12 r1 r2 mmR)), ((mmR 0), .inl (cI, 1800, .inl mm_tapeF))] (some (.int r0))) [.ref a_p0, .int p1, .int p2].toArray s 0 0 A) (F0 m 30 ls []) := by
    intro mmI_30 mmJ_30 x1_30 x2_30 ls H locs hf hP hD hS hl
    unfold fX12_number_b30 at hf
    refine lv_aload_n hx hb dX12_number_30 rfl (lv_at hl 0 rfl) ?_
    refine va_get (D := (dC, dI)) (ci := 12) (v := .int (mmI_30 8)) (C := RX12) (T := TX12) (N := 70) hx hb hts hinX12 hown hK hP 0 rfl rfl 8 (by decide) hw0 (fun _ h9 => h9) rfl dX12_number_31 ?_
    refine lv_if_ne (tgt := 58) hx hb dX12_number_34 (by decide) (fun c_ => ?_) (fun c_ => ?_)
    · have hf := xq_neg hf c_
      exact b58 mmI_30 mmJ_30 _ _ _ hf hP hD hS (lv_sub hl [0] rfl)
    · have hf := xq_pos hf c_
      refine lv_aload_n hx hb dX12_number_37 rfl (lv_at hl 0 rfl) ?_
      refine va_get (D := (dC, dI)) (ci := 12) (v := .int (mmI_30 6)) (C := RX12) (T := TX12) (N := 70) hx hb hts hinX12 hown hK hP 0 rfl rfl 6 (by decide) hw4 (fun _ h9 => h9) rfl dX12_number_38 ?_
      refine lv_iload_n hx hb dX12_number_41 rfl (lv_at hl 1 rfl) ?_
      refine lv_iload_n hx hb dX12_number_42 rfl (lv_at hl 2 rfl) ?_
      obtain ⟨r_1, h_2, hf⟩ := xq_bd_some hf
      refine xq_callS (As := [.int (mmI_30 6), .int x1_30, .int x2_30]) (rest := []) ⟨hx, hb, hml, hown, hts⟩ (kX12_is l dC dI cI cB cJ cZ cM z ad N (mmI_30 6) x1_30 x2_30 h_2) (va_cwS 3 hts gX12_number_X12_is rfl rfl rfl (by decide +kernel) ⟨Nat.le_of_ble_eq_true rfl, Nat.le_of_ble_eq_true rfl⟩) hN hK hP hD hS hA [] (by decide) rfl rfl rfl hl.1 rfl (Nat.le_of_ble_eq_true rfl) dX12_number_43 ⟨Nat.zero_le _, Nat.zero_le _⟩ (fun H locs hP hD hS => ?_)
      have hP : va_P (dC, dI) vwCl [(a_p0, .inr (12, oX12 mmI_30 mmJ_30 mmR)), ((mmR 0), .inl (cI, 1800, .inl mm_tapeF))] H := hP
      have hD : va_D A [(a_p0, .inr (12, oX12 mmI_30 mmJ_30 mmR)), ((mmR 0), .inl (cI, 1800, .inl mm_tapeF))] := hD
      refine W.eq (g2 := F0 m 46 ls [.int r_1]) rfl ?_
      refine lv_if_ne (tgt := 58) hx hb dX12_number_46 (by decide) (fun c_ => ?_) (fun c_ => ?_)
      · have hf := xq_neg hf c_
        exact b58 mmI_30 mmJ_30 _ _ _ hf hP hD hS (lv_sub hl [0] rfl)
      · have hf := xq_pos hf c_
        refine lv_aload_n hx hb dX12_number_49 rfl (lv_at hl 0 rfl) ?_
        refine lv_iconst (v := 4) hx hb dX12_number_50 (by decide) ?_
        refine lv_aload_n hx hb dX12_number_51 rfl (lv_at hl 0 rfl) ?_
        refine va_get (D := (dC, dI)) (ci := 12) (v := .int (mmI_30 4)) (C := RX12) (T := TX12) (N := 70) hx hb hts hinX12 hown hK hP 0 rfl rfl 4 (by decide) hw3 (fun _ h9 => h9) rfl dX12_number_52 ?_
        obtain ⟨r_3, h_4, hf⟩ := xq_bd_some hf
        refine xq_callV (As := [.int 4, .int (mmI_30 4)]) (rest := []) (ci := 12) (q0 := 0) ⟨hx, hb, hml, hown, hts⟩ (kX12_blame l dC dI cI cB cJ cZ cM z ad N a_p0 mmI_30 mmJ_30 mmR 4 (mmI_30 4) h_4) (cwV 2 hts gX12_number_X12_blame rfl rfl rfl (by decide +kernel) ⟨Nat.le_of_ble_eq_true rfl, Nat.le_of_ble_eq_true rfl⟩) hN hK hP hD hS hA [0] (by decide) rfl rfl rfl rfl rfl rfl hl.1 rfl (Nat.le_of_ble_eq_true rfl) dX12_number_55 ⟨Nat.zero_le _, Nat.zero_le _⟩ (fun H locs hP hD hS => ?_)
        have hP : va_P (dC, dI) vwCl [(a_p0, .inr (12, oX12 r_3 mmJ_30 mmR)), ((mmR 0), .inl (cI, 1800, .inl mm_tapeF))] H := hP
        have hD : va_D A [(a_p0, .inr (12, oX12 r_3 mmJ_30 mmR)), ((mmR 0), .inl (cI, 1800, .inl mm_tapeF))] := hD
        refine W.eq (g2 := F0 m 58 ls []) rfl ?_
        exact b58 r_3 mmJ_30 _ _ _ hf hP hD hS (lv_sub hl [0] rfl)
  unfold fX12_number at hf
  refine lv_aload_n hx hb dX12_number_0 rfl (lv_at hl 0 rfl) ?_
  obtain ⟨r_1, h_2, hf⟩ := xq_bd_some hf
  refine xq_callV (As := []) (rest := []) (ci := 12) (q0 := 0) ⟨hx, hb, hml, hown, hts⟩ (kX12_lex l dC dI cI cB cJ cZ cM z ad N a_p0 mmI mmJ mmR h_2) (cwV 0 hts gX12_number_X12_lex rfl rfl rfl (by decide +kernel) ⟨Nat.le_of_ble_eq_true rfl, Nat.le_of_ble_eq_true rfl⟩) hN hK hP hD hS hA [0] (by decide) rfl rfl rfl rfl rfl rfl hl.1 rfl (Nat.le_of_ble_eq_true rfl) dX12_number_1 ⟨Nat.zero_le _, Nat.zero_le _⟩ (fun H locs hP hD hS => ?_)
  have hP : va_P (dC, dI) vwCl [(a_p0, .inr (12, oX12 r_1 mmJ mmR)), ((mmR 0), .inl (cI, 1800, .inl mm_tapeF))] H := hP
  have hD : va_D A [(a_p0, .inr (12, oX12 r_1 mmJ mmR)), ((mmR 0), .inl (cI, 1800, .inl mm_tapeF))] := hD
  refine W.eq (g2 := F0 m 4 ls []) rfl ?_
  refine lv_aload_n hx hb dX12_number_4 rfl (lv_at hl 0 rfl) ?_
  refine va_get (D := (dC, dI)) (ci := 12) (v := .int (r_1 8)) (C := RX12) (T := TX12) (N := 70) hx hb hts hinX12 hown hK hP 0 rfl rfl 8 (by decide) hw0 (fun _ h9 => h9) rfl dX12_number_5 ?_
  refine lv_if_le (tgt := 13) hx hb dX12_number_8 (by decide) (fun c_ => ?_) (fun c_ => ?_)
  · have hf := xq_pos hf c_
    refine lv_aload_n hx hb dX12_number_13 rfl (lv_at hl 0 rfl) ?_
    refine va_get (D := (dC, dI)) (ci := 12) (v := .int (r_1 3)) (C := RX12) (T := TX12) (N := 70) hx hb hts hinX12 hown hK hP 0 rfl rfl 3 (by decide) hw2 (fun _ h9 => h9) rfl dX12_number_14 ?_
    refine lv_iconst (v := 2) hx hb dX12_number_17 (by decide) ?_
    refine lv_icmp_eq (tgt := 30) hx hb dX12_number_18 (by decide) (fun c_ => ?_) (fun c_ => ?_)
    · have hf := xq_pos hf c_
      exact b30 r_1 mmJ p1 p2 _ _ _ hf hP hD hS (lv_sub hl [0, 1, 2] rfl)
    · have hf := xq_neg hf c_
      refine lv_aload_n hx hb dX12_number_21 rfl (lv_at hl 0 rfl) ?_
      refine lv_iconst (v := 1) hx hb dX12_number_22 (by decide) ?_
      refine lv_aload_n hx hb dX12_number_23 rfl (lv_at hl 0 rfl) ?_
      refine va_get (D := (dC, dI)) (ci := 12) (v := .int (r_1 4)) (C := RX12) (T := TX12) (N := 70) hx hb hts hinX12 hown hK hP 0 rfl rfl 4 (by decide) hw3 (fun _ h9 => h9) rfl dX12_number_24 ?_
      obtain ⟨r_3, h_4, hf⟩ := xq_bd_some hf
      refine xq_callV (As := [.int 1, .int (r_1 4)]) (rest := []) (ci := 12) (q0 := 0) ⟨hx, hb, hml, hown, hts⟩ (kX12_blame l dC dI cI cB cJ cZ cM z ad N a_p0 r_1 mmJ mmR 1 (r_1 4) h_4) (cwV 2 hts gX12_number_X12_blame rfl rfl rfl (by decide +kernel) ⟨Nat.le_of_ble_eq_true rfl, Nat.le_of_ble_eq_true rfl⟩) hN hK hP hD hS hA [0] (by decide) rfl rfl rfl rfl rfl rfl hl.1 rfl (Nat.le_of_ble_eq_true rfl) dX12_number_27 ⟨Nat.zero_le _, Nat.zero_le _⟩ (fun H locs hP hD hS => ?_)
      have hP : va_P (dC, dI) vwCl [(a_p0, .inr (12, oX12 r_3 mmJ mmR)), ((mmR 0), .inl (cI, 1800, .inl mm_tapeF))] H := hP
      have hD : va_D A [(a_p0, .inr (12, oX12 r_3 mmJ mmR)), ((mmR 0), .inl (cI, 1800, .inl mm_tapeF))] := hD
      refine W.eq (g2 := F0 m 30 ls []) rfl ?_
      exact b30 r_3 mmJ p1 p2 _ _ _ hf hP hD hS (lv_sub hl [0, 1, 2] rfl)
  · have hf := xq_neg hf c_
    refine lv_iconst (v := 0) hx hb dX12_number_11 (by decide) ?_
    have hP9 := hP
    have hD9 := hD
    have hS9 := hS
    cases hf
    exact xq_iret hx hb hr hlocks hK hP9 hD9 hS9 dX12_number_12
def dsX12_add_0 : List (Nat × Instr × Nat) := [(0, (.aload_n 0, 1)), (1, (.getfield 90, 3)), (4, (.sipush 1600, 3)), (7, (.aload_n 0, 1)), (8, (.getfield 106, 3)), (11, (.imul, 1)), (12, (.aload_n 0, 1)), (13, (.getfield 103, 3)), (16, (.iadd, 1)), (17, (.iload_n 1, 1)), (18, (.iastore, 1)), (19, (.aload_n 0, 1)), (20, (.getfield 93, 3)), (23, (.sipush 1600, 3)), (26, (.aload_n 0, 1)), (27, (.getfield 106, 3)), (30, (.imul, 1)), (31, (.aload_n 0, 1)), (32, (.getfield 103, 3)), (35, (.iadd, 1)), (36, (.iload_n 2, 1)), (37, (.iastore, 1)), (38, (.aload_n 0, 1)), (39, (.dup, 1)), (40, (.getfield 103, 3)), (43, (.iconst 1, 1)), (44, (.iadd, 1)), (45, (.putfield 103, 3)), (48, (.return_, 1))]
theorem dsX12_add_0_ok : (dsX12_add_0.all fun q => decide (decode cX12_add q.1 = .ok q.2)) = true := by decide +kernel
theorem dX12_add_0 : decode cX12_add 0 = .ok (.aload_n 0, 1) := of_decide_eq_true (List.all_eq_true.mp dsX12_add_0_ok (0, (.aload_n 0, 1)) (List.mem_of_getElem? (i := 0) rfl))
theorem dX12_add_1 : decode cX12_add 1 = .ok (.getfield 90, 3) := of_decide_eq_true (List.all_eq_true.mp dsX12_add_0_ok (1, (.getfield 90, 3)) (List.mem_of_getElem? (i := 1) rfl))
theorem dX12_add_4 : decode cX12_add 4 = .ok (.sipush 1600, 3) := of_decide_eq_true (List.all_eq_true.mp dsX12_add_0_ok (4, (.sipush 1600, 3)) (List.mem_of_getElem? (i := 2) rfl))
theorem dX12_add_7 : decode cX12_add 7 = .ok (.aload_n 0, 1) := of_decide_eq_true (List.all_eq_true.mp dsX12_add_0_ok (7, (.aload_n 0, 1)) (List.mem_of_getElem? (i := 3) rfl))
theorem dX12_add_8 : decode cX12_add 8 = .ok (.getfield 106, 3) := of_decide_eq_true (List.all_eq_true.mp dsX12_add_0_ok (8, (.getfield 106, 3)) (List.mem_of_getElem? (i := 4) rfl))
theorem dX12_add_11 : decode cX12_add 11 = .ok (.imul, 1) := of_decide_eq_true (List.all_eq_true.mp dsX12_add_0_ok (11, (.imul, 1)) (List.mem_of_getElem? (i := 5) rfl))
theorem dX12_add_12 : decode cX12_add 12 = .ok (.aload_n 0, 1) := of_decide_eq_true (List.all_eq_true.mp dsX12_add_0_ok (12, (.aload_n 0, 1)) (List.mem_of_getElem? (i := 6) rfl))
theorem dX12_add_13 : decode cX12_add 13 = .ok (.getfield 103, 3) := of_decide_eq_true (List.all_eq_true.mp dsX12_add_0_ok (13, (.getfield 103, 3)) (List.mem_of_getElem? (i := 7) rfl))
theorem dX12_add_16 : decode cX12_add 16 = .ok (.iadd, 1) := of_decide_eq_true (List.all_eq_true.mp dsX12_add_0_ok (16, (.iadd, 1)) (List.mem_of_getElem? (i := 8) rfl))
theorem dX12_add_17 : decode cX12_add 17 = .ok (.iload_n 1, 1) := of_decide_eq_true (List.all_eq_true.mp dsX12_add_0_ok (17, (.iload_n 1, 1)) (List.mem_of_getElem? (i := 9) rfl))
theorem dX12_add_18 : decode cX12_add 18 = .ok (.iastore, 1) := of_decide_eq_true (List.all_eq_true.mp dsX12_add_0_ok (18, (.iastore, 1)) (List.mem_of_getElem? (i := 10) rfl))
theorem dX12_add_19 : decode cX12_add 19 = .ok (.aload_n 0, 1) := of_decide_eq_true (List.all_eq_true.mp dsX12_add_0_ok (19, (.aload_n 0, 1)) (List.mem_of_getElem? (i := 11) rfl))
theorem dX12_add_20 : decode cX12_add 20 = .ok (.getfield 93, 3) := of_decide_eq_true (List.all_eq_true.mp dsX12_add_0_ok (20, (.getfield 93, 3)) (List.mem_of_getElem? (i := 12) rfl))
theorem dX12_add_23 : decode cX12_add 23 = .ok (.sipush 1600, 3) := of_decide_eq_true (List.all_eq_true.mp dsX12_add_0_ok (23, (.sipush 1600, 3)) (List.mem_of_getElem? (i := 13) rfl))
theorem dX12_add_26 : decode cX12_add 26 = .ok (.aload_n 0, 1) := of_decide_eq_true (List.all_eq_true.mp dsX12_add_0_ok (26, (.aload_n 0, 1)) (List.mem_of_getElem? (i := 14) rfl))
theorem dX12_add_27 : decode cX12_add 27 = .ok (.getfield 106, 3) := of_decide_eq_true (List.all_eq_true.mp dsX12_add_0_ok (27, (.getfield 106, 3)) (List.mem_of_getElem? (i := 15) rfl))
theorem dX12_add_30 : decode cX12_add 30 = .ok (.imul, 1) := of_decide_eq_true (List.all_eq_true.mp dsX12_add_0_ok (30, (.imul, 1)) (List.mem_of_getElem? (i := 16) rfl))
theorem dX12_add_31 : decode cX12_add 31 = .ok (.aload_n 0, 1) := of_decide_eq_true (List.all_eq_true.mp dsX12_add_0_ok (31, (.aload_n 0, 1)) (List.mem_of_getElem? (i := 17) rfl))
theorem dX12_add_32 : decode cX12_add 32 = .ok (.getfield 103, 3) := of_decide_eq_true (List.all_eq_true.mp dsX12_add_0_ok (32, (.getfield 103, 3)) (List.mem_of_getElem? (i := 18) rfl))
theorem dX12_add_35 : decode cX12_add 35 = .ok (.iadd, 1) := of_decide_eq_true (List.all_eq_true.mp dsX12_add_0_ok (35, (.iadd, 1)) (List.mem_of_getElem? (i := 19) rfl))
theorem dX12_add_36 : decode cX12_add 36 = .ok (.iload_n 2, 1) := of_decide_eq_true (List.all_eq_true.mp dsX12_add_0_ok (36, (.iload_n 2, 1)) (List.mem_of_getElem? (i := 20) rfl))
theorem dX12_add_37 : decode cX12_add 37 = .ok (.iastore, 1) := of_decide_eq_true (List.all_eq_true.mp dsX12_add_0_ok (37, (.iastore, 1)) (List.mem_of_getElem? (i := 21) rfl))
theorem dX12_add_38 : decode cX12_add 38 = .ok (.aload_n 0, 1) := of_decide_eq_true (List.all_eq_true.mp dsX12_add_0_ok (38, (.aload_n 0, 1)) (List.mem_of_getElem? (i := 22) rfl))
theorem dX12_add_39 : decode cX12_add 39 = .ok (.dup, 1) := of_decide_eq_true (List.all_eq_true.mp dsX12_add_0_ok (39, (.dup, 1)) (List.mem_of_getElem? (i := 23) rfl))
theorem dX12_add_40 : decode cX12_add 40 = .ok (.getfield 103, 3) := of_decide_eq_true (List.all_eq_true.mp dsX12_add_0_ok (40, (.getfield 103, 3)) (List.mem_of_getElem? (i := 24) rfl))
theorem dX12_add_43 : decode cX12_add 43 = .ok (.iconst 1, 1) := of_decide_eq_true (List.all_eq_true.mp dsX12_add_0_ok (43, (.iconst 1, 1)) (List.mem_of_getElem? (i := 25) rfl))
theorem dX12_add_44 : decode cX12_add 44 = .ok (.iadd, 1) := of_decide_eq_true (List.all_eq_true.mp dsX12_add_0_ok (44, (.iadd, 1)) (List.mem_of_getElem? (i := 26) rfl))
theorem dX12_add_45 : decode cX12_add 45 = .ok (.putfield 103, 3) := of_decide_eq_true (List.all_eq_true.mp dsX12_add_0_ok (45, (.putfield 103, 3)) (List.mem_of_getElem? (i := 27) rfl))
theorem dX12_add_48 : decode cX12_add 48 = .ok (.return_, 1) := of_decide_eq_true (List.all_eq_true.mp dsX12_add_0_ok (48, (.return_, 1)) (List.mem_of_getElem? (i := 28) rfl))
def fX12_add (N : Nat) (mmI : Nat → Int32) (mm_codeSortF : Nat → Int32) (mm_codeValueF : Nat → Int32)  (p1 : Int32) (p2 : Int32) : Option ((Nat → Int32) × (Nat → Int32) × (Nat → Int32)) :=
  (xq_bd (xq_ast 3200 mm_codeSortF ((1600 * (mmI 31)) + (mmI 30)) p1) fun g_1 => (xq_bd (xq_ast 3200 mm_codeValueF ((1600 * (mmI 31)) + (mmI 30)) p2) fun g_2 => some (((va_up mmI 30 ((mmI 30) + 1)), g_1, g_2))))
set_option maxHeartbeats 4000000 in
set_option maxRecDepth 100000 in
theorem kX12_add (l : Launch) (dC : Nat → ClassId) (dI : Nat → Nat → Nat) (cI cB cJ cZ cM : ClassId) (z : Nat) (ad : Nat → Nat) (N : Nat) (a_p0 : Nat) (mmI : Nat → Int32) (mmJ : Nat → Int64) (mmR : Nat → Nat) (mm_codeSortF : Nat → Int32) (mm_codeValueF : Nat → Int32) (p1 : Int32) (p2 : Int32) {r0 : Nat → Int32} {r1 : Nat → Int32} {r2 : Nat → Int32} (hf : fX12_add N mmI mm_codeSortF mm_codeValueF p1 p2 = some (r0, r1, r2)) : xq_Ct l yX12_add wsX12_add { frames := 0, cells := 0, slots := 0, locals := 0 } (dC, dI) vwCl (xq_tys cI cB cJ cZ cM) z ad [.ref a_p0, .int p1, .int p2] [(a_p0, .inr (12, oX12 mmI mmJ mmR)), ((mmR 26), .inl (cI, 3200, .inl mm_codeSortF)), ((mmR 27), .inl (cI, 3200, .inl mm_codeValueF))] [(a_p0, .inr (12, oX12 r0 mmJ mmR)), ((mmR 26), .inl (cI, 3200, .inl r1)), ((mmR 27), .inl (cI, 3200, .inl r2))] none := by
  intro sz
  refine Met.ofW (cc := cX12_add) (maxL := 3) (ret := none) (by decide) rfl ?_
  intro p e s m args below meth c s₁ B hml hv
  obtain ⟨rfl, hsz, hP, hK, hD0, hE, hz⟩ := hv
  have hx := B.exec
  have hb := B.bytes
  have hr := B.returns
  have hts := atoms_spec (ws := wsX12_add) B.pre
  have hown : s.vm.findClass RX12 = some m.cls := findClass_of_methodNamed B.named
  have hlocks := B.notSynchronized
  subst hsz
  have hD := hD0.self (sz := s.heap.size)
  have hN := xq_Env.of hE hz hD0
  generalize hAe : va_A [(a_p0, .inr (12, oX12 mmI mmJ mmR)), ((mmR 26), .inl (cI, 3200, .inl mm_codeSortF)), ((mmR 27), .inl (cI, 3200, .inl mm_codeValueF))] s.heap.size = A at hD hN ⊢
  have hA : ∀ q : Nat, s.heap.size ≤ q → A q := fun q h => by rw [← hAe]; exact Or.inr h
  clear hAe hD0
  have hS : va_S A s.heap s.heap [] := va_S.rf
  have hl := lv_entry ([.ref a_p0, .int p1, .int p2]) (n := 3) (Nat.le_of_ble_eq_true rfl)
  rw [lg_entry_eq]
  generalize (lg_sl ([.ref a_p0, .int p1, .int p2]) ++ List.replicate (3 - (lg_sl ([.ref a_p0, .int p1, .int p2])).length) Slot.unset).toArray = ls at hl ⊢
  have hl : lv_has ls 3 [(0, .ref a_p0), (1, .int p1), (2, .int p2)] := hl
  have hw0 := hts (.fieldLink RX12 90 "DistantVoiceModel" "codeSort" "[I") (by decide +kernel)
  have hinX12 : ∀ w ∈ wsX120, w ∈ wsX12_add := fun w h => List.mem_cons_of_mem _ (List.mem_append_right _ h)
  have hw2 := hts (.fieldLink RX12 106 "DistantVoiceModel" "in" "I") (by decide +kernel)
  have hw3 := hts (.fieldLink RX12 103 "DistantVoiceModel" "codes" "I") (by decide +kernel)
  have hw4 := hts (.fieldLink RX12 93 "DistantVoiceModel" "codeValue" "[I") (by decide +kernel)
  unfold fX12_add at hf
  refine lv_aload_n hx hb dX12_add_0 rfl (lv_at hl 0 rfl) ?_
  refine va_get (D := (dC, dI)) (ci := 12) (v := .ref ((mmR 26))) (C := RX12) (T := TX12) (N := 70) hx hb hts hinX12 hown hK hP 0 rfl rfl 26 (by decide) hw0 (fun _ h9 => h9) rfl dX12_add_1 ?_
  refine lv_sipush (v := 1600) hx hb dX12_add_4 (by decide) ?_
  refine lv_aload_n hx hb dX12_add_7 rfl (lv_at hl 0 rfl) ?_
  refine va_get (D := (dC, dI)) (ci := 12) (v := .int (mmI 31)) (C := RX12) (T := TX12) (N := 70) hx hb hts hinX12 hown hK hP 0 rfl rfl 31 (by decide) hw2 (fun _ h9 => h9) rfl dX12_add_8 ?_
  refine lv_imul hx hb dX12_add_11 ?_
  refine lv_aload_n hx hb dX12_add_12 rfl (lv_at hl 0 rfl) ?_
  refine va_get (D := (dC, dI)) (ci := 12) (v := .int (mmI 30)) (C := RX12) (T := TX12) (N := 70) hx hb hts hinX12 hown hK hP 0 rfl rfl 30 (by decide) hw3 (fun _ h9 => h9) rfl dX12_add_13 ?_
  refine lv_iadd hx hb dX12_add_16 ?_
  refine lv_iload_n hx hb dX12_add_17 rfl (lv_at hl 1 rfl) ?_
  refine xq_iast hx hb hK hP hD hS 1 0 rfl rfl hf dX12_add_18 (fun g_1 H locs hf hP hD hS => ?_)
  have hP : va_P (dC, dI) vwCl [(a_p0, .inr (12, oX12 mmI mmJ mmR)), ((mmR 26), .inl (cI, 3200, .inl g_1)), ((mmR 27), .inl (cI, 3200, .inl mm_codeValueF))] H := hP
  have hD : va_D A [(a_p0, .inr (12, oX12 mmI mmJ mmR)), ((mmR 26), .inl (cI, 3200, .inl g_1)), ((mmR 27), .inl (cI, 3200, .inl mm_codeValueF))] := hD
  refine lv_aload_n hx hb dX12_add_19 rfl (lv_at hl 0 rfl) ?_
  refine va_get (D := (dC, dI)) (ci := 12) (v := .ref ((mmR 27))) (C := RX12) (T := TX12) (N := 70) hx hb hts hinX12 hown hK hP 0 rfl rfl 27 (by decide) hw4 (fun _ h9 => h9) rfl dX12_add_20 ?_
  refine lv_sipush (v := 1600) hx hb dX12_add_23 (by decide) ?_
  refine lv_aload_n hx hb dX12_add_26 rfl (lv_at hl 0 rfl) ?_
  refine va_get (D := (dC, dI)) (ci := 12) (v := .int (mmI 31)) (C := RX12) (T := TX12) (N := 70) hx hb hts hinX12 hown hK hP 0 rfl rfl 31 (by decide) hw2 (fun _ h9 => h9) rfl dX12_add_27 ?_
  refine lv_imul hx hb dX12_add_30 ?_
  refine lv_aload_n hx hb dX12_add_31 rfl (lv_at hl 0 rfl) ?_
  refine va_get (D := (dC, dI)) (ci := 12) (v := .int (mmI 30)) (C := RX12) (T := TX12) (N := 70) hx hb hts hinX12 hown hK hP 0 rfl rfl 30 (by decide) hw3 (fun _ h9 => h9) rfl dX12_add_32 ?_
  refine lv_iadd hx hb dX12_add_35 ?_
  refine lv_iload_n hx hb dX12_add_36 rfl (lv_at hl 2 rfl) ?_
  refine xq_iast hx hb hK hP hD hS 2 0 rfl rfl hf dX12_add_37 (fun g_2 H locs hf hP hD hS => ?_)
  have hP : va_P (dC, dI) vwCl [(a_p0, .inr (12, oX12 mmI mmJ mmR)), ((mmR 26), .inl (cI, 3200, .inl g_1)), ((mmR 27), .inl (cI, 3200, .inl g_2))] H := hP
  have hD : va_D A [(a_p0, .inr (12, oX12 mmI mmJ mmR)), ((mmR 26), .inl (cI, 3200, .inl g_1)), ((mmR 27), .inl (cI, 3200, .inl g_2))] := hD
  refine lv_aload_n hx hb dX12_add_38 rfl (lv_at hl 0 rfl) ?_
  refine lv_dup hx hb dX12_add_39 rfl ?_
  refine va_get (D := (dC, dI)) (ci := 12) (v := .int (mmI 30)) (C := RX12) (T := TX12) (N := 70) hx hb hts hinX12 hown hK hP 0 rfl rfl 30 (by decide) hw3 (fun _ h9 => h9) rfl dX12_add_40 ?_
  refine lv_iconst (v := 1) hx hb dX12_add_43 (by decide) ?_
  refine lv_iadd hx hb dX12_add_44 ?_
  refine va_put (D := (dC, dI)) (ci := 12) (v := .int ((mmI 30) + 1)) (ty := .int) (C := RX12) (T := TX12) (N := 70) hx hb hts hinX12 tyX12 tyX12_ok nmX12 hown hK hP hD hS 0 rfl rfl 30 (by decide) hw3 (fun _ h9 => h9) rfl (by decide +kernel) rfl rfl (Nat.le_of_ble_eq_true rfl) dX12_add_45 (fun H locs hP hD hS => ?_)
  have hP : va_P (dC, dI) vwCl [(a_p0, .inr (12, oX12 (va_up mmI 30 ((mmI 30) + 1)) mmJ mmR)), ((mmR 26), .inl (cI, 3200, .inl g_1)), ((mmR 27), .inl (cI, 3200, .inl g_2))] H := hP
  have hD : va_D A [(a_p0, .inr (12, oX12 (va_up mmI 30 ((mmI 30) + 1)) mmJ mmR)), ((mmR 26), .inl (cI, 3200, .inl g_1)), ((mmR 27), .inl (cI, 3200, .inl g_2))] := hD
  have hP9 := hP
  have hD9 := hD
  have hS9 := hS
  cases hf
  exact xq_vret hx hb hr hlocks hK hP9 hD9 hS9 dX12_add_48
def dsX12_rank_0 : List (Nat × Instr × Nat) := [(0, (.iload_n 0, 1)), (1, (.bipush 42, 2)), (3, (.if_icmp .ne 7, 3)), (6, (.iconst 1, 1)), (7, (.goto 63, 3)), (10, (.iload_n 0, 1)), (11, (.bipush 41, 2)), (13, (.if_icmp .ne 7, 3)), (16, (.iconst 2, 1)), (17, (.goto 53, 3)), (20, (.iload_n 0, 1)), (21, (.bipush 43, 2)), (23, (.if_icmp .ne 7, 3)), (26, (.iconst 3, 1)), (27, (.goto 43, 3)), (30, (.iload_n 0, 1)), (31, (.bipush 38, 2)), (33, (.if_icmp .eq 15, 3)), (36, (.iload_n 0, 1)), (37, (.bipush 39, 2)), (39, (.if_icmp .eq 9, 3)), (42, (.iload_n 0, 1)), (43, (.bipush 40, 2)), (45, (.if_icmp .ne 7, 3)), (48, (.iconst 4, 1)), (49, (.goto 21, 3)), (52, (.iload_n 0, 1)), (53, (.bipush 31, 2)), (55, (.if_icmp .eq 9, 3)), (58, (.iload_n 0, 1)), (59, (.bipush 32, 2)), (61, (.if_icmp .ne 7, 3)), (64, (.iconst 5, 1)), (65, (.goto 5, 3)), (68, (.bipush 6, 2)), (70, (.ireturn, 1))]
theorem dsX12_rank_0_ok : (dsX12_rank_0.all fun q => decide (decode cX12_rank q.1 = .ok q.2)) = true := by decide +kernel
theorem dX12_rank_0 : decode cX12_rank 0 = .ok (.iload_n 0, 1) := of_decide_eq_true (List.all_eq_true.mp dsX12_rank_0_ok (0, (.iload_n 0, 1)) (List.mem_of_getElem? (i := 0) rfl))
theorem dX12_rank_1 : decode cX12_rank 1 = .ok (.bipush 42, 2) := of_decide_eq_true (List.all_eq_true.mp dsX12_rank_0_ok (1, (.bipush 42, 2)) (List.mem_of_getElem? (i := 1) rfl))
theorem dX12_rank_3 : decode cX12_rank 3 = .ok (.if_icmp .ne 7, 3) := of_decide_eq_true (List.all_eq_true.mp dsX12_rank_0_ok (3, (.if_icmp .ne 7, 3)) (List.mem_of_getElem? (i := 2) rfl))
theorem dX12_rank_6 : decode cX12_rank 6 = .ok (.iconst 1, 1) := of_decide_eq_true (List.all_eq_true.mp dsX12_rank_0_ok (6, (.iconst 1, 1)) (List.mem_of_getElem? (i := 3) rfl))
theorem dX12_rank_7 : decode cX12_rank 7 = .ok (.goto 63, 3) := of_decide_eq_true (List.all_eq_true.mp dsX12_rank_0_ok (7, (.goto 63, 3)) (List.mem_of_getElem? (i := 4) rfl))
theorem dX12_rank_10 : decode cX12_rank 10 = .ok (.iload_n 0, 1) := of_decide_eq_true (List.all_eq_true.mp dsX12_rank_0_ok (10, (.iload_n 0, 1)) (List.mem_of_getElem? (i := 5) rfl))
theorem dX12_rank_11 : decode cX12_rank 11 = .ok (.bipush 41, 2) := of_decide_eq_true (List.all_eq_true.mp dsX12_rank_0_ok (11, (.bipush 41, 2)) (List.mem_of_getElem? (i := 6) rfl))
theorem dX12_rank_13 : decode cX12_rank 13 = .ok (.if_icmp .ne 7, 3) := of_decide_eq_true (List.all_eq_true.mp dsX12_rank_0_ok (13, (.if_icmp .ne 7, 3)) (List.mem_of_getElem? (i := 7) rfl))
theorem dX12_rank_16 : decode cX12_rank 16 = .ok (.iconst 2, 1) := of_decide_eq_true (List.all_eq_true.mp dsX12_rank_0_ok (16, (.iconst 2, 1)) (List.mem_of_getElem? (i := 8) rfl))
theorem dX12_rank_17 : decode cX12_rank 17 = .ok (.goto 53, 3) := of_decide_eq_true (List.all_eq_true.mp dsX12_rank_0_ok (17, (.goto 53, 3)) (List.mem_of_getElem? (i := 9) rfl))
theorem dX12_rank_20 : decode cX12_rank 20 = .ok (.iload_n 0, 1) := of_decide_eq_true (List.all_eq_true.mp dsX12_rank_0_ok (20, (.iload_n 0, 1)) (List.mem_of_getElem? (i := 10) rfl))
theorem dX12_rank_21 : decode cX12_rank 21 = .ok (.bipush 43, 2) := of_decide_eq_true (List.all_eq_true.mp dsX12_rank_0_ok (21, (.bipush 43, 2)) (List.mem_of_getElem? (i := 11) rfl))
theorem dX12_rank_23 : decode cX12_rank 23 = .ok (.if_icmp .ne 7, 3) := of_decide_eq_true (List.all_eq_true.mp dsX12_rank_0_ok (23, (.if_icmp .ne 7, 3)) (List.mem_of_getElem? (i := 12) rfl))
theorem dX12_rank_26 : decode cX12_rank 26 = .ok (.iconst 3, 1) := of_decide_eq_true (List.all_eq_true.mp dsX12_rank_0_ok (26, (.iconst 3, 1)) (List.mem_of_getElem? (i := 13) rfl))
theorem dX12_rank_27 : decode cX12_rank 27 = .ok (.goto 43, 3) := of_decide_eq_true (List.all_eq_true.mp dsX12_rank_0_ok (27, (.goto 43, 3)) (List.mem_of_getElem? (i := 14) rfl))
theorem dX12_rank_30 : decode cX12_rank 30 = .ok (.iload_n 0, 1) := of_decide_eq_true (List.all_eq_true.mp dsX12_rank_0_ok (30, (.iload_n 0, 1)) (List.mem_of_getElem? (i := 15) rfl))
theorem dX12_rank_31 : decode cX12_rank 31 = .ok (.bipush 38, 2) := of_decide_eq_true (List.all_eq_true.mp dsX12_rank_0_ok (31, (.bipush 38, 2)) (List.mem_of_getElem? (i := 16) rfl))
theorem dX12_rank_33 : decode cX12_rank 33 = .ok (.if_icmp .eq 15, 3) := of_decide_eq_true (List.all_eq_true.mp dsX12_rank_0_ok (33, (.if_icmp .eq 15, 3)) (List.mem_of_getElem? (i := 17) rfl))
theorem dX12_rank_36 : decode cX12_rank 36 = .ok (.iload_n 0, 1) := of_decide_eq_true (List.all_eq_true.mp dsX12_rank_0_ok (36, (.iload_n 0, 1)) (List.mem_of_getElem? (i := 18) rfl))
theorem dX12_rank_37 : decode cX12_rank 37 = .ok (.bipush 39, 2) := of_decide_eq_true (List.all_eq_true.mp dsX12_rank_0_ok (37, (.bipush 39, 2)) (List.mem_of_getElem? (i := 19) rfl))
theorem dX12_rank_39 : decode cX12_rank 39 = .ok (.if_icmp .eq 9, 3) := of_decide_eq_true (List.all_eq_true.mp dsX12_rank_0_ok (39, (.if_icmp .eq 9, 3)) (List.mem_of_getElem? (i := 20) rfl))
theorem dX12_rank_42 : decode cX12_rank 42 = .ok (.iload_n 0, 1) := of_decide_eq_true (List.all_eq_true.mp dsX12_rank_0_ok (42, (.iload_n 0, 1)) (List.mem_of_getElem? (i := 21) rfl))
theorem dX12_rank_43 : decode cX12_rank 43 = .ok (.bipush 40, 2) := of_decide_eq_true (List.all_eq_true.mp dsX12_rank_0_ok (43, (.bipush 40, 2)) (List.mem_of_getElem? (i := 22) rfl))
theorem dX12_rank_45 : decode cX12_rank 45 = .ok (.if_icmp .ne 7, 3) := of_decide_eq_true (List.all_eq_true.mp dsX12_rank_0_ok (45, (.if_icmp .ne 7, 3)) (List.mem_of_getElem? (i := 23) rfl))
theorem dX12_rank_48 : decode cX12_rank 48 = .ok (.iconst 4, 1) := of_decide_eq_true (List.all_eq_true.mp dsX12_rank_0_ok (48, (.iconst 4, 1)) (List.mem_of_getElem? (i := 24) rfl))
theorem dX12_rank_49 : decode cX12_rank 49 = .ok (.goto 21, 3) := of_decide_eq_true (List.all_eq_true.mp dsX12_rank_0_ok (49, (.goto 21, 3)) (List.mem_of_getElem? (i := 25) rfl))
theorem dX12_rank_52 : decode cX12_rank 52 = .ok (.iload_n 0, 1) := of_decide_eq_true (List.all_eq_true.mp dsX12_rank_0_ok (52, (.iload_n 0, 1)) (List.mem_of_getElem? (i := 26) rfl))
theorem dX12_rank_53 : decode cX12_rank 53 = .ok (.bipush 31, 2) := of_decide_eq_true (List.all_eq_true.mp dsX12_rank_0_ok (53, (.bipush 31, 2)) (List.mem_of_getElem? (i := 27) rfl))
theorem dX12_rank_55 : decode cX12_rank 55 = .ok (.if_icmp .eq 9, 3) := of_decide_eq_true (List.all_eq_true.mp dsX12_rank_0_ok (55, (.if_icmp .eq 9, 3)) (List.mem_of_getElem? (i := 28) rfl))
theorem dX12_rank_58 : decode cX12_rank 58 = .ok (.iload_n 0, 1) := of_decide_eq_true (List.all_eq_true.mp dsX12_rank_0_ok (58, (.iload_n 0, 1)) (List.mem_of_getElem? (i := 29) rfl))
theorem dX12_rank_59 : decode cX12_rank 59 = .ok (.bipush 32, 2) := of_decide_eq_true (List.all_eq_true.mp dsX12_rank_0_ok (59, (.bipush 32, 2)) (List.mem_of_getElem? (i := 30) rfl))
theorem dX12_rank_61 : decode cX12_rank 61 = .ok (.if_icmp .ne 7, 3) := of_decide_eq_true (List.all_eq_true.mp dsX12_rank_0_ok (61, (.if_icmp .ne 7, 3)) (List.mem_of_getElem? (i := 31) rfl))
theorem dX12_rank_64 : decode cX12_rank 64 = .ok (.iconst 5, 1) := of_decide_eq_true (List.all_eq_true.mp dsX12_rank_0_ok (64, (.iconst 5, 1)) (List.mem_of_getElem? (i := 32) rfl))
theorem dX12_rank_65 : decode cX12_rank 65 = .ok (.goto 5, 3) := of_decide_eq_true (List.all_eq_true.mp dsX12_rank_0_ok (65, (.goto 5, 3)) (List.mem_of_getElem? (i := 33) rfl))
theorem dX12_rank_68 : decode cX12_rank 68 = .ok (.bipush 6, 2) := of_decide_eq_true (List.all_eq_true.mp dsX12_rank_0_ok (68, (.bipush 6, 2)) (List.mem_of_getElem? (i := 34) rfl))
theorem dX12_rank_70 : decode cX12_rank 70 = .ok (.ireturn, 1) := of_decide_eq_true (List.all_eq_true.mp dsX12_rank_0_ok (70, (.ireturn, 1)) (List.mem_of_getElem? (i := 35) rfl))
def fX12_rank (N : Nat)   (p0 : Int32) : Option (Int32) :=
  (if p0 = 42 then some 1 else (if p0 = 41 then some 2 else (if p0 = 43 then some 3 else (if p0 = 38 then some 4 else (if p0 = 39 then some 4 else (if p0 = 40 then some 4 else (if p0 = 31 then some 5 else (if p0 = 32 then some 5 else some 6))))))))
set_option maxHeartbeats 4000000 in
set_option maxRecDepth 100000 in
theorem kX12_rank (l : Launch) (dC : Nat → ClassId) (dI : Nat → Nat → Nat) (cI cB cJ cZ cM : ClassId) (z : Nat) (ad : Nat → Nat) (N : Nat) (p0 : Int32) {r0 : Int32} (hf : fX12_rank N p0 = some r0) : xq_Ct l yX12_rank wsX12_rank { frames := 0, cells := 0, slots := 0, locals := 0 } (dC, dI) vwCl (xq_tys cI cB cJ cZ cM) z ad [.int p0] [] [] (some (.int r0)) := by
  intro sz
  refine Met.ofW (cc := cX12_rank) (maxL := 1) (ret := (some .int)) (by decide) rfl ?_
  intro p e s m args below meth c s₁ B hml hv
  obtain ⟨rfl, hsz, hP, hK, hD0, hE, hz⟩ := hv
  have hx := B.exec
  have hb := B.bytes
  have hr := B.returns
  have hts := atoms_spec (ws := wsX12_rank) B.pre
  have hown : s.vm.findClass RX12 = some m.cls := findClass_of_methodNamed B.named
  have hlocks := B.notSynchronized
  subst hsz
  have hD := hD0.self (sz := s.heap.size)
  have hN := xq_Env.of hE hz hD0
  generalize hAe : va_A [] s.heap.size = A at hD hN ⊢
  have hA : ∀ q : Nat, s.heap.size ≤ q → A q := fun q h => by rw [← hAe]; exact Or.inr h
  clear hAe hD0
  have hS : va_S A s.heap s.heap [] := va_S.rf
  have hl := lv_entry ([.int p0]) (n := 1) (Nat.le_of_ble_eq_true rfl)
  rw [lg_entry_eq]
  generalize (lg_sl ([.int p0]) ++ List.replicate (1 - (lg_sl ([.int p0])).length) Slot.unset).toArray = ls at hl ⊢
  have hl : lv_has ls 1 [(0, .int p0)] := hl
  unfold fX12_rank at hf
  refine lv_iload_n hx hb dX12_rank_0 rfl (lv_at hl 0 rfl) ?_
  refine lv_bipush (v := 42) hx hb dX12_rank_1 (by decide) ?_
  refine lv_icmp_ne (tgt := 10) hx hb dX12_rank_3 (by decide) (fun c_ => ?_) (fun c_ => ?_)
  · have hf := xq_neg hf c_
    refine lv_iload_n hx hb dX12_rank_10 rfl (lv_at hl 0 rfl) ?_
    refine lv_bipush (v := 41) hx hb dX12_rank_11 (by decide) ?_
    refine lv_icmp_ne (tgt := 20) hx hb dX12_rank_13 (by decide) (fun c_ => ?_) (fun c_ => ?_)
    · have hf := xq_neg hf c_
      refine lv_iload_n hx hb dX12_rank_20 rfl (lv_at hl 0 rfl) ?_
      refine lv_bipush (v := 43) hx hb dX12_rank_21 (by decide) ?_
      refine lv_icmp_ne (tgt := 30) hx hb dX12_rank_23 (by decide) (fun c_ => ?_) (fun c_ => ?_)
      · have hf := xq_neg hf c_
        refine lv_iload_n hx hb dX12_rank_30 rfl (lv_at hl 0 rfl) ?_
        refine lv_bipush (v := 38) hx hb dX12_rank_31 (by decide) ?_
        refine lv_icmp_eq (tgt := 48) hx hb dX12_rank_33 (by decide) (fun c_ => ?_) (fun c_ => ?_)
        · have hf := xq_pos hf c_
          refine lv_iconst (v := 4) hx hb dX12_rank_48 (by decide) ?_
          refine lv_goto (tgt := 70) hx hb dX12_rank_49 (by decide) ?_
          have hP9 := hP
          have hD9 := hD
          have hS9 := hS
          cases hf
          exact xq_iret hx hb hr hlocks hK hP9 hD9 hS9 dX12_rank_70
        · have hf := xq_neg hf c_
          refine lv_iload_n hx hb dX12_rank_36 rfl (lv_at hl 0 rfl) ?_
          refine lv_bipush (v := 39) hx hb dX12_rank_37 (by decide) ?_
          refine lv_icmp_eq (tgt := 48) hx hb dX12_rank_39 (by decide) (fun c_ => ?_) (fun c_ => ?_)
          · have hf := xq_pos hf c_
            refine lv_iconst (v := 4) hx hb dX12_rank_48 (by decide) ?_
            refine lv_goto (tgt := 70) hx hb dX12_rank_49 (by decide) ?_
            have hP9 := hP
            have hD9 := hD
            have hS9 := hS
            cases hf
            exact xq_iret hx hb hr hlocks hK hP9 hD9 hS9 dX12_rank_70
          · have hf := xq_neg hf c_
            refine lv_iload_n hx hb dX12_rank_42 rfl (lv_at hl 0 rfl) ?_
            refine lv_bipush (v := 40) hx hb dX12_rank_43 (by decide) ?_
            refine lv_icmp_ne (tgt := 52) hx hb dX12_rank_45 (by decide) (fun c_ => ?_) (fun c_ => ?_)
            · have hf := xq_neg hf c_
              refine lv_iload_n hx hb dX12_rank_52 rfl (lv_at hl 0 rfl) ?_
              refine lv_bipush (v := 31) hx hb dX12_rank_53 (by decide) ?_
              refine lv_icmp_eq (tgt := 64) hx hb dX12_rank_55 (by decide) (fun c_ => ?_) (fun c_ => ?_)
              · have hf := xq_pos hf c_
                refine lv_iconst (v := 5) hx hb dX12_rank_64 (by decide) ?_
                refine lv_goto (tgt := 70) hx hb dX12_rank_65 (by decide) ?_
                have hP9 := hP
                have hD9 := hD
                have hS9 := hS
                cases hf
                exact xq_iret hx hb hr hlocks hK hP9 hD9 hS9 dX12_rank_70
              · have hf := xq_neg hf c_
                refine lv_iload_n hx hb dX12_rank_58 rfl (lv_at hl 0 rfl) ?_
                refine lv_bipush (v := 32) hx hb dX12_rank_59 (by decide) ?_
                refine lv_icmp_ne (tgt := 68) hx hb dX12_rank_61 (by decide) (fun c_ => ?_) (fun c_ => ?_)
                · have hf := xq_neg hf c_
                  refine lv_bipush (v := 6) hx hb dX12_rank_68 (by decide) ?_
                  have hP9 := hP
                  have hD9 := hD
                  have hS9 := hS
                  cases hf
                  exact xq_iret hx hb hr hlocks hK hP9 hD9 hS9 dX12_rank_70
                · have hf := xq_pos hf c_
                  refine lv_iconst (v := 5) hx hb dX12_rank_64 (by decide) ?_
                  refine lv_goto (tgt := 70) hx hb dX12_rank_65 (by decide) ?_
                  have hP9 := hP
                  have hD9 := hD
                  have hS9 := hS
                  cases hf
                  exact xq_iret hx hb hr hlocks hK hP9 hD9 hS9 dX12_rank_70
            · have hf := xq_pos hf c_
              refine lv_iconst (v := 4) hx hb dX12_rank_48 (by decide) ?_
              refine lv_goto (tgt := 70) hx hb dX12_rank_49 (by decide) ?_
              have hP9 := hP
              have hD9 := hD
              have hS9 := hS
              cases hf
              exact xq_iret hx hb hr hlocks hK hP9 hD9 hS9 dX12_rank_70
      · have hf := xq_pos hf c_
        refine lv_iconst (v := 3) hx hb dX12_rank_26 (by decide) ?_
        refine lv_goto (tgt := 70) hx hb dX12_rank_27 (by decide) ?_
        have hP9 := hP
        have hD9 := hD
        have hS9 := hS
        cases hf
        exact xq_iret hx hb hr hlocks hK hP9 hD9 hS9 dX12_rank_70
    · have hf := xq_pos hf c_
      refine lv_iconst (v := 2) hx hb dX12_rank_16 (by decide) ?_
      refine lv_goto (tgt := 70) hx hb dX12_rank_17 (by decide) ?_
      have hP9 := hP
      have hD9 := hD
      have hS9 := hS
      cases hf
      exact xq_iret hx hb hr hlocks hK hP9 hD9 hS9 dX12_rank_70
  · have hf := xq_pos hf c_
    refine lv_iconst (v := 1) hx hb dX12_rank_6 (by decide) ?_
    refine lv_goto (tgt := 70) hx hb dX12_rank_7 (by decide) ?_
    have hP9 := hP
    have hD9 := hD
    have hS9 := hS
    cases hf
    exact xq_iret hx hb hr hlocks hK hP9 hD9 hS9 dX12_rank_70
set_option maxRecDepth 20000 in
theorem ggX12_joins_X12_rank : GoodIn wsX12_joins wsX12_rank := goodIn_r _ [9] rfl (by decide +kernel)
set_option maxRecDepth 20000 in
theorem gX12_joins_X12_rank : GoodIn wsX12_joins (va_wsS RX12 305 yX12_rank wsX12_rank) := goodIn_app (goodIn_of _ (by decide +kernel)) ggX12_joins_X12_rank
set_option maxRecDepth 20000 in
theorem ggX12_joins_X12_add : GoodIn wsX12_joins wsX12_add := goodIn_r _ [13, 14, 15, 16, 17, 18, 19, 20, 21, 22, 23, 24, 25, 26, 27, 28, 29, 30, 31, 32, 33, 34, 35, 36, 37, 38, 39, 40, 41, 42, 43, 44, 45, 46, 47, 48, 49, 50, 51, 52, 53, 54, 55, 56, 57, 58, 59, 60, 61, 62, 63, 64, 65, 66, 67, 68, 69, 70, 71, 72, 73, 74, 75, 76, 77, 78, 79, 80, 81, 82, 83, 84, 85, 86, 87] rfl (by decide +kernel)
set_option maxRecDepth 20000 in
theorem gX12_joins_X12_add : GoodIn wsX12_joins (wsV RX12 308 RX12 yX12_add wsX12_add) := goodIn_app (goodIn_of _ (by decide +kernel)) ggX12_joins_X12_add
def dsX12_joins_0 : List (Nat × Instr × Nat) := [(0, (.aload_n 0, 1)), (1, (.getfield 137, 3)), (4, (.aload_n 0, 1)), (5, (.getfield 125, 3)), (8, (.aload_n 0, 1)), (9, (.getfield 128, 3)), (12, (.iconst 1, 1)), (13, (.isub, 1)), (14, (.iaload, 1)), (15, (.if_icmp .le 72, 3)), (18, (.aload_n 0, 1)), (19, (.getfield 134, 3)), (22, (.aload_n 0, 1)), (23, (.getfield 137, 3)), (26, (.iconst 1, 1)), (27, (.isub, 1)), (28, (.iaload, 1)), (29, (.invokestatic 305, 3)), (32, (.iload_n 1, 1)), (33, (.if_icmp .lt 54, 3)), (36, (.aload_n 0, 1)), (37, (.dup, 1)), (38, (.getfield 137, 3)), (41, (.iconst 1, 1)), (42, (.isub, 1)), (43, (.putfield 137, 3)), (46, (.aload_n 0, 1)), (47, (.aload_n 0, 1)), (48, (.getfield 134, 3)), (51, (.aload_n 0, 1)), (52, (.getfield 137, 3)), (55, (.iaload, 1)), (56, (.iconst 0, 1)), (57, (.invokevirtual 308, 3)), (60, (.aload_n 0, 1)), (61, (.getfield 134, 3)), (64, (.aload_n 0, 1)), (65, (.getfield 137, 3)), (68, (.iaload, 1)), (69, (.bipush 43, 2)), (71, (.if_icmp .ne (-71), 3)), (74, (.aload_n 0, 1)), (75, (.dup, 1)), (76, (.getfield 131, 3)), (79, (.iconst 1, 1)), (80, (.isub, 1)), (81, (.putfield 131, 3)), (84, (.goto (-84), 3)), (87, (.return_, 1))]
theorem dsX12_joins_0_ok : (dsX12_joins_0.all fun q => decide (decode cX12_joins q.1 = .ok q.2)) = true := by decide +kernel
theorem dX12_joins_0 : decode cX12_joins 0 = .ok (.aload_n 0, 1) := of_decide_eq_true (List.all_eq_true.mp dsX12_joins_0_ok (0, (.aload_n 0, 1)) (List.mem_of_getElem? (i := 0) rfl))
theorem dX12_joins_1 : decode cX12_joins 1 = .ok (.getfield 137, 3) := of_decide_eq_true (List.all_eq_true.mp dsX12_joins_0_ok (1, (.getfield 137, 3)) (List.mem_of_getElem? (i := 1) rfl))
theorem dX12_joins_4 : decode cX12_joins 4 = .ok (.aload_n 0, 1) := of_decide_eq_true (List.all_eq_true.mp dsX12_joins_0_ok (4, (.aload_n 0, 1)) (List.mem_of_getElem? (i := 2) rfl))
theorem dX12_joins_5 : decode cX12_joins 5 = .ok (.getfield 125, 3) := of_decide_eq_true (List.all_eq_true.mp dsX12_joins_0_ok (5, (.getfield 125, 3)) (List.mem_of_getElem? (i := 3) rfl))
theorem dX12_joins_8 : decode cX12_joins 8 = .ok (.aload_n 0, 1) := of_decide_eq_true (List.all_eq_true.mp dsX12_joins_0_ok (8, (.aload_n 0, 1)) (List.mem_of_getElem? (i := 4) rfl))
theorem dX12_joins_9 : decode cX12_joins 9 = .ok (.getfield 128, 3) := of_decide_eq_true (List.all_eq_true.mp dsX12_joins_0_ok (9, (.getfield 128, 3)) (List.mem_of_getElem? (i := 5) rfl))
theorem dX12_joins_12 : decode cX12_joins 12 = .ok (.iconst 1, 1) := of_decide_eq_true (List.all_eq_true.mp dsX12_joins_0_ok (12, (.iconst 1, 1)) (List.mem_of_getElem? (i := 6) rfl))
theorem dX12_joins_13 : decode cX12_joins 13 = .ok (.isub, 1) := of_decide_eq_true (List.all_eq_true.mp dsX12_joins_0_ok (13, (.isub, 1)) (List.mem_of_getElem? (i := 7) rfl))
theorem dX12_joins_14 : decode cX12_joins 14 = .ok (.iaload, 1) := of_decide_eq_true (List.all_eq_true.mp dsX12_joins_0_ok (14, (.iaload, 1)) (List.mem_of_getElem? (i := 8) rfl))
theorem dX12_joins_15 : decode cX12_joins 15 = .ok (.if_icmp .le 72, 3) := of_decide_eq_true (List.all_eq_true.mp dsX12_joins_0_ok (15, (.if_icmp .le 72, 3)) (List.mem_of_getElem? (i := 9) rfl))
theorem dX12_joins_18 : decode cX12_joins 18 = .ok (.aload_n 0, 1) := of_decide_eq_true (List.all_eq_true.mp dsX12_joins_0_ok (18, (.aload_n 0, 1)) (List.mem_of_getElem? (i := 10) rfl))
theorem dX12_joins_19 : decode cX12_joins 19 = .ok (.getfield 134, 3) := of_decide_eq_true (List.all_eq_true.mp dsX12_joins_0_ok (19, (.getfield 134, 3)) (List.mem_of_getElem? (i := 11) rfl))
theorem dX12_joins_22 : decode cX12_joins 22 = .ok (.aload_n 0, 1) := of_decide_eq_true (List.all_eq_true.mp dsX12_joins_0_ok (22, (.aload_n 0, 1)) (List.mem_of_getElem? (i := 12) rfl))
theorem dX12_joins_23 : decode cX12_joins 23 = .ok (.getfield 137, 3) := of_decide_eq_true (List.all_eq_true.mp dsX12_joins_0_ok (23, (.getfield 137, 3)) (List.mem_of_getElem? (i := 13) rfl))
theorem dX12_joins_26 : decode cX12_joins 26 = .ok (.iconst 1, 1) := of_decide_eq_true (List.all_eq_true.mp dsX12_joins_0_ok (26, (.iconst 1, 1)) (List.mem_of_getElem? (i := 14) rfl))
theorem dX12_joins_27 : decode cX12_joins 27 = .ok (.isub, 1) := of_decide_eq_true (List.all_eq_true.mp dsX12_joins_0_ok (27, (.isub, 1)) (List.mem_of_getElem? (i := 15) rfl))
theorem dX12_joins_28 : decode cX12_joins 28 = .ok (.iaload, 1) := of_decide_eq_true (List.all_eq_true.mp dsX12_joins_0_ok (28, (.iaload, 1)) (List.mem_of_getElem? (i := 16) rfl))
theorem dX12_joins_29 : decode cX12_joins 29 = .ok (.invokestatic 305, 3) := of_decide_eq_true (List.all_eq_true.mp dsX12_joins_0_ok (29, (.invokestatic 305, 3)) (List.mem_of_getElem? (i := 17) rfl))
theorem dX12_joins_32 : decode cX12_joins 32 = .ok (.iload_n 1, 1) := of_decide_eq_true (List.all_eq_true.mp dsX12_joins_0_ok (32, (.iload_n 1, 1)) (List.mem_of_getElem? (i := 18) rfl))
theorem dX12_joins_33 : decode cX12_joins 33 = .ok (.if_icmp .lt 54, 3) := of_decide_eq_true (List.all_eq_true.mp dsX12_joins_0_ok (33, (.if_icmp .lt 54, 3)) (List.mem_of_getElem? (i := 19) rfl))
theorem dX12_joins_36 : decode cX12_joins 36 = .ok (.aload_n 0, 1) := of_decide_eq_true (List.all_eq_true.mp dsX12_joins_0_ok (36, (.aload_n 0, 1)) (List.mem_of_getElem? (i := 20) rfl))
theorem dX12_joins_37 : decode cX12_joins 37 = .ok (.dup, 1) := of_decide_eq_true (List.all_eq_true.mp dsX12_joins_0_ok (37, (.dup, 1)) (List.mem_of_getElem? (i := 21) rfl))
theorem dX12_joins_38 : decode cX12_joins 38 = .ok (.getfield 137, 3) := of_decide_eq_true (List.all_eq_true.mp dsX12_joins_0_ok (38, (.getfield 137, 3)) (List.mem_of_getElem? (i := 22) rfl))
theorem dX12_joins_41 : decode cX12_joins 41 = .ok (.iconst 1, 1) := of_decide_eq_true (List.all_eq_true.mp dsX12_joins_0_ok (41, (.iconst 1, 1)) (List.mem_of_getElem? (i := 23) rfl))
theorem dX12_joins_42 : decode cX12_joins 42 = .ok (.isub, 1) := of_decide_eq_true (List.all_eq_true.mp dsX12_joins_0_ok (42, (.isub, 1)) (List.mem_of_getElem? (i := 24) rfl))
theorem dX12_joins_43 : decode cX12_joins 43 = .ok (.putfield 137, 3) := of_decide_eq_true (List.all_eq_true.mp dsX12_joins_0_ok (43, (.putfield 137, 3)) (List.mem_of_getElem? (i := 25) rfl))
theorem dX12_joins_46 : decode cX12_joins 46 = .ok (.aload_n 0, 1) := of_decide_eq_true (List.all_eq_true.mp dsX12_joins_0_ok (46, (.aload_n 0, 1)) (List.mem_of_getElem? (i := 26) rfl))
theorem dX12_joins_47 : decode cX12_joins 47 = .ok (.aload_n 0, 1) := of_decide_eq_true (List.all_eq_true.mp dsX12_joins_0_ok (47, (.aload_n 0, 1)) (List.mem_of_getElem? (i := 27) rfl))
theorem dX12_joins_48 : decode cX12_joins 48 = .ok (.getfield 134, 3) := of_decide_eq_true (List.all_eq_true.mp dsX12_joins_0_ok (48, (.getfield 134, 3)) (List.mem_of_getElem? (i := 28) rfl))
theorem dX12_joins_51 : decode cX12_joins 51 = .ok (.aload_n 0, 1) := of_decide_eq_true (List.all_eq_true.mp dsX12_joins_0_ok (51, (.aload_n 0, 1)) (List.mem_of_getElem? (i := 29) rfl))
theorem dX12_joins_52 : decode cX12_joins 52 = .ok (.getfield 137, 3) := of_decide_eq_true (List.all_eq_true.mp dsX12_joins_0_ok (52, (.getfield 137, 3)) (List.mem_of_getElem? (i := 30) rfl))
theorem dX12_joins_55 : decode cX12_joins 55 = .ok (.iaload, 1) := of_decide_eq_true (List.all_eq_true.mp dsX12_joins_0_ok (55, (.iaload, 1)) (List.mem_of_getElem? (i := 31) rfl))
theorem dX12_joins_56 : decode cX12_joins 56 = .ok (.iconst 0, 1) := of_decide_eq_true (List.all_eq_true.mp dsX12_joins_0_ok (56, (.iconst 0, 1)) (List.mem_of_getElem? (i := 32) rfl))
theorem dX12_joins_57 : decode cX12_joins 57 = .ok (.invokevirtual 308, 3) := of_decide_eq_true (List.all_eq_true.mp dsX12_joins_0_ok (57, (.invokevirtual 308, 3)) (List.mem_of_getElem? (i := 33) rfl))
theorem dX12_joins_60 : decode cX12_joins 60 = .ok (.aload_n 0, 1) := of_decide_eq_true (List.all_eq_true.mp dsX12_joins_0_ok (60, (.aload_n 0, 1)) (List.mem_of_getElem? (i := 34) rfl))
theorem dX12_joins_61 : decode cX12_joins 61 = .ok (.getfield 134, 3) := of_decide_eq_true (List.all_eq_true.mp dsX12_joins_0_ok (61, (.getfield 134, 3)) (List.mem_of_getElem? (i := 35) rfl))
theorem dX12_joins_64 : decode cX12_joins 64 = .ok (.aload_n 0, 1) := of_decide_eq_true (List.all_eq_true.mp dsX12_joins_0_ok (64, (.aload_n 0, 1)) (List.mem_of_getElem? (i := 36) rfl))
theorem dX12_joins_65 : decode cX12_joins 65 = .ok (.getfield 137, 3) := of_decide_eq_true (List.all_eq_true.mp dsX12_joins_0_ok (65, (.getfield 137, 3)) (List.mem_of_getElem? (i := 37) rfl))
theorem dX12_joins_68 : decode cX12_joins 68 = .ok (.iaload, 1) := of_decide_eq_true (List.all_eq_true.mp dsX12_joins_0_ok (68, (.iaload, 1)) (List.mem_of_getElem? (i := 38) rfl))
theorem dX12_joins_69 : decode cX12_joins 69 = .ok (.bipush 43, 2) := of_decide_eq_true (List.all_eq_true.mp dsX12_joins_0_ok (69, (.bipush 43, 2)) (List.mem_of_getElem? (i := 39) rfl))
theorem dX12_joins_71 : decode cX12_joins 71 = .ok (.if_icmp .ne (-71), 3) := of_decide_eq_true (List.all_eq_true.mp dsX12_joins_0_ok (71, (.if_icmp .ne (-71), 3)) (List.mem_of_getElem? (i := 40) rfl))
theorem dX12_joins_74 : decode cX12_joins 74 = .ok (.aload_n 0, 1) := of_decide_eq_true (List.all_eq_true.mp dsX12_joins_0_ok (74, (.aload_n 0, 1)) (List.mem_of_getElem? (i := 41) rfl))
theorem dX12_joins_75 : decode cX12_joins 75 = .ok (.dup, 1) := of_decide_eq_true (List.all_eq_true.mp dsX12_joins_0_ok (75, (.dup, 1)) (List.mem_of_getElem? (i := 42) rfl))
theorem dX12_joins_76 : decode cX12_joins 76 = .ok (.getfield 131, 3) := of_decide_eq_true (List.all_eq_true.mp dsX12_joins_0_ok (76, (.getfield 131, 3)) (List.mem_of_getElem? (i := 43) rfl))
theorem dX12_joins_79 : decode cX12_joins 79 = .ok (.iconst 1, 1) := of_decide_eq_true (List.all_eq_true.mp dsX12_joins_0_ok (79, (.iconst 1, 1)) (List.mem_of_getElem? (i := 44) rfl))
theorem dX12_joins_80 : decode cX12_joins 80 = .ok (.isub, 1) := of_decide_eq_true (List.all_eq_true.mp dsX12_joins_0_ok (80, (.isub, 1)) (List.mem_of_getElem? (i := 45) rfl))
theorem dX12_joins_81 : decode cX12_joins 81 = .ok (.putfield 131, 3) := of_decide_eq_true (List.all_eq_true.mp dsX12_joins_0_ok (81, (.putfield 131, 3)) (List.mem_of_getElem? (i := 46) rfl))
theorem dX12_joins_84 : decode cX12_joins 84 = .ok (.goto (-84), 3) := of_decide_eq_true (List.all_eq_true.mp dsX12_joins_0_ok (84, (.goto (-84), 3)) (List.mem_of_getElem? (i := 47) rfl))
theorem dX12_joins_87 : decode cX12_joins 87 = .ok (.return_, 1) := of_decide_eq_true (List.all_eq_true.mp dsX12_joins_0_ok (87, (.return_, 1)) (List.mem_of_getElem? (i := 48) rfl))
def fX12_joins_l0 (N : Nat) (mm_baseF : Nat → Int32) (mm_opsF : Nat → Int32)  (k0 : ((Nat → Int32) × (Nat → Int32) × (Nat → Int32) × Int32) → Option ((Nat → Int32) × (Nat → Int32) × (Nat → Int32))) : ((Nat → Int32) × (Nat → Int32) × (Nat → Int32) × Int32) → Option ((Nat → Int32) × (Nat → Int32) × (Nat → Int32)) :=
  fun (mmI_0, mm_codeSortF_0, mm_codeValueF_0, x1_0) => (xq_bd (xq_ald 20 mm_baseF ((mmI_0 38) - 1)) fun v_1 => (if (mmI_0 41) ≤ v_1 then some ((mmI_0, mm_codeSortF_0, mm_codeValueF_0)) else (xq_bd (xq_ald 500 mm_opsF ((mmI_0 41) - 1)) fun v_2 => (xq_bd (fX12_rank N v_2) fun r_3 => (if r_3 < x1_0 then some ((mmI_0, mm_codeSortF_0, mm_codeValueF_0)) else (xq_bd (xq_ald 500 mm_opsF ((mmI_0 41) - 1)) fun v_5 => (xq_bd (fX12_add N ((va_up mmI_0 41 ((mmI_0 41) - 1))) mm_codeSortF_0 mm_codeValueF_0 v_5 0) fun (r_6_0, r_6_1, r_6_2) => (xq_bd (xq_ald 500 mm_opsF (r_6_0 41)) fun v_8 => (if v_8 = 43 then k0 ((va_up r_6_0 39 ((r_6_0 39) - 1)), r_6_1, r_6_2, x1_0) else k0 (r_6_0, r_6_1, r_6_2, x1_0))))))))))
def fX12_joins (N : Nat) (mmI : Nat → Int32) (mm_baseF : Nat → Int32) (mm_opsF : Nat → Int32) (mm_codeSortF : Nat → Int32) (mm_codeValueF : Nat → Int32)  (p1 : Int32) : Option ((Nat → Int32) × (Nat → Int32) × (Nat → Int32)) :=
  xq_loop (fX12_joins_l0 N mm_baseF mm_opsF) N (mmI, mm_codeSortF, mm_codeValueF, p1)
set_option maxHeartbeats 4000000 in
set_option maxRecDepth 100000 in
theorem kX12_joins (l : Launch) (dC : Nat → ClassId) (dI : Nat → Nat → Nat) (cI cB cJ cZ cM : ClassId) (z : Nat) (ad : Nat → Nat) (N : Nat) (a_p0 : Nat) (mmI : Nat → Int32) (mmJ : Nat → Int64) (mmR : Nat → Nat) (mm_baseF : Nat → Int32) (mm_opsF : Nat → Int32) (mm_codeSortF : Nat → Int32) (mm_codeValueF : Nat → Int32) (p1 : Int32) {r0 : Nat → Int32} {r1 : Nat → Int32} {r2 : Nat → Int32} (hf : fX12_joins N mmI mm_baseF mm_opsF mm_codeSortF mm_codeValueF p1 = some (r0, r1, r2)) : xq_Ct l yX12_joins wsX12_joins { frames := 1, cells := 0, slots := 0, locals := 22 } (dC, dI) vwCl (xq_tys cI cB cJ cZ cM) z ad [.ref a_p0, .int p1] [(a_p0, .inr (12, oX12 mmI mmJ mmR)), ((mmR 37), .inl (cI, 20, .inl mm_baseF)), ((mmR 40), .inl (cI, 500, .inl mm_opsF)), ((mmR 26), .inl (cI, 3200, .inl mm_codeSortF)), ((mmR 27), .inl (cI, 3200, .inl mm_codeValueF))] [(a_p0, .inr (12, oX12 r0 mmJ mmR)), ((mmR 37), .inl (cI, 20, .inl mm_baseF)), ((mmR 40), .inl (cI, 500, .inl mm_opsF)), ((mmR 26), .inl (cI, 3200, .inl r1)), ((mmR 27), .inl (cI, 3200, .inl r2))] none := by
  intro sz
  refine Met.ofW (cc := cX12_joins) (maxL := 2) (ret := none) (by decide) rfl ?_
  intro p e s m args below meth c s₁ B hml hv
  obtain ⟨rfl, hsz, hP, hK, hD0, hE, hz⟩ := hv
  have hx := B.exec
  have hb := B.bytes
  have hr := B.returns
  have hts := atoms_spec (ws := wsX12_joins) B.pre
  have hown : s.vm.findClass RX12 = some m.cls := findClass_of_methodNamed B.named
  have hlocks := B.notSynchronized
  subst hsz
  have hD := hD0.self (sz := s.heap.size)
  have hN := xq_Env.of hE hz hD0
  generalize hAe : va_A [(a_p0, .inr (12, oX12 mmI mmJ mmR)), ((mmR 37), .inl (cI, 20, .inl mm_baseF)), ((mmR 40), .inl (cI, 500, .inl mm_opsF)), ((mmR 26), .inl (cI, 3200, .inl mm_codeSortF)), ((mmR 27), .inl (cI, 3200, .inl mm_codeValueF))] s.heap.size = A at hD hN ⊢
  have hA : ∀ q : Nat, s.heap.size ≤ q → A q := fun q h => by rw [← hAe]; exact Or.inr h
  clear hAe hD0
  have hS : va_S A s.heap s.heap [] := va_S.rf
  have hl := lv_entry ([.ref a_p0, .int p1]) (n := 2) (Nat.le_of_ble_eq_true rfl)
  rw [lg_entry_eq]
  generalize (lg_sl ([.ref a_p0, .int p1]) ++ List.replicate (2 - (lg_sl ([.ref a_p0, .int p1])).length) Slot.unset).toArray = ls at hl ⊢
  have hl : lv_has ls 2 [(0, .ref a_p0), (1, .int p1)] := hl
  have hw0 := hts (.fieldLink RX12 137 "DistantVoiceModel" "opMany" "I") (by decide +kernel)
  have hinX12 : ∀ w ∈ wsX120, w ∈ wsX12_joins := fun w h => List.mem_cons_of_mem _ (List.mem_append_right _ h)
  have hw2 := hts (.fieldLink RX12 125 "DistantVoiceModel" "base" "[I") (by decide +kernel)
  have hw3 := hts (.fieldLink RX12 128 "DistantVoiceModel" "deep" "I") (by decide +kernel)
  have hw4 := hts (.fieldLink RX12 134 "DistantVoiceModel" "ops" "[I") (by decide +kernel)
  have hw5 := hts (.fieldLink RX12 131 "DistantVoiceModel" "open" "I") (by decide +kernel)
  have l0 : ∀ n0 : Nat, ∀ (mmI_0 : Nat → Int32) (mm_codeSortF_0 : Nat → Int32) (mm_codeValueF_0 : Nat → Int32) (x1_0 : Int32) (ls : Array Slot) (H : Heap) (locs : List Loc), xq_loop (fX12_joins_l0 N mm_baseF mm_opsF) n0 (mmI_0, mm_codeSortF_0, mm_codeValueF_0, x1_0) = some (r0, r1, r2) → va_P (dC, dI) vwCl [(a_p0, .inr (12, oX12 mmI_0 mmJ mmR)), ((mmR 37), .inl (cI, 20, .inl mm_baseF)), ((mmR 40), .inl (cI, 500, .inl mm_opsF)), ((mmR 26), .inl (cI, 3200, .inl mm_codeSortF_0)), ((mmR 27), .inl (cI, 3200, .inl mm_codeValueF_0))] H → va_D A [(a_p0, .inr (12, oX12 mmI_0 mmJ mmR)), ((mmR 37), .inl (cI, 20, .inl mm_baseF)), ((mmR 40), .inl (cI, 500, .inl mm_opsF)), ((mmR 26), .inl (cI, 3200, .inl mm_codeSortF_0)), ((mmR 27), .inl (cI, 3200, .inl mm_codeValueF_0))] → va_S A s.heap H locs → lv_has ls 2 [(0, .ref a_p0), (1, .int x1_0)] → W p l e (headSpec wsX12_joins { frames := 1, cells := 0, slots := 0, locals := 22 }).room s m [.ref a_p0, .int p1].toArray below meth c H locs 0 0 (MQ below (xq_Q (dC, dI) vwCl (xq_tys cI cB cJ cZ cM) A [(a_p0, .inr (12, oX12 r0 mmJ mmR)), ((mmR 37), .inl (cI, 20, .inl mm_baseF)), ((mmR 40), .inl (cI, 500, .inl mm_opsF)), ((mmR 26), .inl (cI, 3200, .inl r1)), ((mmR 27), .inl (cI, 3200, .inl r2))] none) [.ref a_p0, .int p1].toArray s 0 0 A) (F0 m 0 ls []) := by
    intro n0
    induction n0 with
    | zero => intro mmI_0 mm_codeSortF_0 mm_codeValueF_0 x1_0 ls H locs hf; cases (show none = some (r0, r1, r2) from hf)
    | succ n0 ih0 =>
      intro mmI_0 mm_codeSortF_0 mm_codeValueF_0 x1_0 ls H locs hf hP hD hS hl
      have hf : fX12_joins_l0 N mm_baseF mm_opsF (xq_loop (fX12_joins_l0 N mm_baseF mm_opsF) n0) (mmI_0, mm_codeSortF_0, mm_codeValueF_0, x1_0) = some (r0, r1, r2) := hf
      unfold fX12_joins_l0 at hf
      refine lv_aload_n hx hb dX12_joins_0 rfl (lv_at hl 0 rfl) ?_
      refine va_get (D := (dC, dI)) (ci := 12) (v := .int (mmI_0 41)) (C := RX12) (T := TX12) (N := 70) hx hb hts hinX12 hown hK hP 0 rfl rfl 41 (by decide) hw0 (fun _ h9 => h9) rfl dX12_joins_1 ?_
      refine lv_aload_n hx hb dX12_joins_4 rfl (lv_at hl 0 rfl) ?_
      refine va_get (D := (dC, dI)) (ci := 12) (v := .ref ((mmR 37))) (C := RX12) (T := TX12) (N := 70) hx hb hts hinX12 hown hK hP 0 rfl rfl 37 (by decide) hw2 (fun _ h9 => h9) rfl dX12_joins_5 ?_
      refine lv_aload_n hx hb dX12_joins_8 rfl (lv_at hl 0 rfl) ?_
      refine va_get (D := (dC, dI)) (ci := 12) (v := .int (mmI_0 38)) (C := RX12) (T := TX12) (N := 70) hx hb hts hinX12 hown hK hP 0 rfl rfl 38 (by decide) hw3 (fun _ h9 => h9) rfl dX12_joins_9 ?_
      refine lv_iconst (v := 1) hx hb dX12_joins_12 (by decide) ?_
      refine lv_isub hx hb dX12_joins_13 ?_
      refine xq_iald hx hb hK hP 1 0 rfl rfl hf dX12_joins_14 (fun v_1 hf => ?_)
      refine lv_icmp_le (tgt := 87) hx hb dX12_joins_15 (by decide) (fun c_ => ?_) (fun c_ => ?_)
      · have hf := xq_pos hf c_
        have hP9 := hP
        have hD9 := hD
        have hS9 := hS
        cases hf
        exact xq_vret hx hb hr hlocks hK hP9 hD9 hS9 dX12_joins_87
      · have hf := xq_neg hf c_
        refine lv_aload_n hx hb dX12_joins_18 rfl (lv_at hl 0 rfl) ?_
        refine va_get (D := (dC, dI)) (ci := 12) (v := .ref ((mmR 40))) (C := RX12) (T := TX12) (N := 70) hx hb hts hinX12 hown hK hP 0 rfl rfl 40 (by decide) hw4 (fun _ h9 => h9) rfl dX12_joins_19 ?_
        refine lv_aload_n hx hb dX12_joins_22 rfl (lv_at hl 0 rfl) ?_
        refine va_get (D := (dC, dI)) (ci := 12) (v := .int (mmI_0 41)) (C := RX12) (T := TX12) (N := 70) hx hb hts hinX12 hown hK hP 0 rfl rfl 41 (by decide) hw0 (fun _ h9 => h9) rfl dX12_joins_23 ?_
        refine lv_iconst (v := 1) hx hb dX12_joins_26 (by decide) ?_
        refine lv_isub hx hb dX12_joins_27 ?_
        refine xq_iald hx hb hK hP 2 0 rfl rfl hf dX12_joins_28 (fun v_2 hf => ?_)
        obtain ⟨r_3, h_4, hf⟩ := xq_bd_some hf
        refine xq_callS (As := [.int v_2]) (rest := []) ⟨hx, hb, hml, hown, hts⟩ (kX12_rank l dC dI cI cB cJ cZ cM z ad N v_2 h_4) (va_cwS 1 hts gX12_joins_X12_rank rfl rfl rfl (by decide +kernel) ⟨Nat.le_of_ble_eq_true rfl, Nat.le_of_ble_eq_true rfl⟩) hN hK hP hD hS hA [] (by decide) rfl rfl rfl hl.1 rfl (Nat.le_of_ble_eq_true rfl) dX12_joins_29 ⟨Nat.zero_le _, Nat.zero_le _⟩ (fun H locs hP hD hS => ?_)
        have hP : va_P (dC, dI) vwCl [(a_p0, .inr (12, oX12 mmI_0 mmJ mmR)), ((mmR 37), .inl (cI, 20, .inl mm_baseF)), ((mmR 40), .inl (cI, 500, .inl mm_opsF)), ((mmR 26), .inl (cI, 3200, .inl mm_codeSortF_0)), ((mmR 27), .inl (cI, 3200, .inl mm_codeValueF_0))] H := hP
        have hD : va_D A [(a_p0, .inr (12, oX12 mmI_0 mmJ mmR)), ((mmR 37), .inl (cI, 20, .inl mm_baseF)), ((mmR 40), .inl (cI, 500, .inl mm_opsF)), ((mmR 26), .inl (cI, 3200, .inl mm_codeSortF_0)), ((mmR 27), .inl (cI, 3200, .inl mm_codeValueF_0))] := hD
        refine W.eq (g2 := F0 m 32 ls [.int r_3]) rfl ?_
        refine lv_iload_n hx hb dX12_joins_32 rfl (lv_at hl 1 rfl) ?_
        refine lv_icmp_lt (tgt := 87) hx hb dX12_joins_33 (by decide) (fun c_ => ?_) (fun c_ => ?_)
        · have hf := xq_pos hf c_
          have hP9 := hP
          have hD9 := hD
          have hS9 := hS
          cases hf
          exact xq_vret hx hb hr hlocks hK hP9 hD9 hS9 dX12_joins_87
        · have hf := xq_neg hf c_
          refine lv_aload_n hx hb dX12_joins_36 rfl (lv_at hl 0 rfl) ?_
          refine lv_dup hx hb dX12_joins_37 rfl ?_
          refine va_get (D := (dC, dI)) (ci := 12) (v := .int (mmI_0 41)) (C := RX12) (T := TX12) (N := 70) hx hb hts hinX12 hown hK hP 0 rfl rfl 41 (by decide) hw0 (fun _ h9 => h9) rfl dX12_joins_38 ?_
          refine lv_iconst (v := 1) hx hb dX12_joins_41 (by decide) ?_
          refine lv_isub hx hb dX12_joins_42 ?_
          refine va_put (D := (dC, dI)) (ci := 12) (v := .int ((mmI_0 41) - 1)) (ty := .int) (C := RX12) (T := TX12) (N := 70) hx hb hts hinX12 tyX12 tyX12_ok nmX12 hown hK hP hD hS 0 rfl rfl 41 (by decide) hw0 (fun _ h9 => h9) rfl (by decide +kernel) rfl rfl (Nat.le_of_ble_eq_true rfl) dX12_joins_43 (fun H locs hP hD hS => ?_)
          have hP : va_P (dC, dI) vwCl [(a_p0, .inr (12, oX12 (va_up mmI_0 41 ((mmI_0 41) - 1)) mmJ mmR)), ((mmR 37), .inl (cI, 20, .inl mm_baseF)), ((mmR 40), .inl (cI, 500, .inl mm_opsF)), ((mmR 26), .inl (cI, 3200, .inl mm_codeSortF_0)), ((mmR 27), .inl (cI, 3200, .inl mm_codeValueF_0))] H := hP
          have hD : va_D A [(a_p0, .inr (12, oX12 (va_up mmI_0 41 ((mmI_0 41) - 1)) mmJ mmR)), ((mmR 37), .inl (cI, 20, .inl mm_baseF)), ((mmR 40), .inl (cI, 500, .inl mm_opsF)), ((mmR 26), .inl (cI, 3200, .inl mm_codeSortF_0)), ((mmR 27), .inl (cI, 3200, .inl mm_codeValueF_0))] := hD
          refine lv_aload_n hx hb dX12_joins_46 rfl (lv_at hl 0 rfl) ?_
          refine lv_aload_n hx hb dX12_joins_47 rfl (lv_at hl 0 rfl) ?_
          refine va_get (D := (dC, dI)) (ci := 12) (v := .ref ((mmR 40))) (C := RX12) (T := TX12) (N := 70) hx hb hts hinX12 hown hK hP 0 rfl rfl 40 (by decide) hw4 (fun _ h9 => h9) rfl dX12_joins_48 ?_
          refine lv_aload_n hx hb dX12_joins_51 rfl (lv_at hl 0 rfl) ?_
          refine va_get (D := (dC, dI)) (ci := 12) (v := .int ((mmI_0 41) - 1)) (C := RX12) (T := TX12) (N := 70) hx hb hts hinX12 hown hK hP 0 rfl rfl 41 (by decide) hw0 (fun _ h9 => h9) rfl dX12_joins_52 ?_
          refine xq_iald hx hb hK hP 2 0 rfl rfl hf dX12_joins_55 (fun v_5 hf => ?_)
          refine lv_iconst (v := 0) hx hb dX12_joins_56 (by decide) ?_
          obtain ⟨⟨r_6_0, r_6_1, r_6_2⟩, h_7, hf⟩ := xq_bd_some hf
          refine xq_callV (As := [.int v_5, .int 0]) (rest := []) (ci := 12) (q0 := 0) ⟨hx, hb, hml, hown, hts⟩ (kX12_add l dC dI cI cB cJ cZ cM z ad N a_p0 ((va_up mmI_0 41 ((mmI_0 41) - 1))) mmJ mmR mm_codeSortF_0 mm_codeValueF_0 v_5 0 h_7) (cwV 2 hts gX12_joins_X12_add rfl rfl rfl (by decide +kernel) ⟨Nat.le_of_ble_eq_true rfl, Nat.le_of_ble_eq_true rfl⟩) hN hK hP hD hS hA [0, 3, 4] (by decide) rfl rfl rfl rfl rfl rfl hl.1 rfl (Nat.le_of_ble_eq_true rfl) dX12_joins_57 ⟨Nat.zero_le _, Nat.zero_le _⟩ (fun H locs hP hD hS => ?_)
          have hP : va_P (dC, dI) vwCl [(a_p0, .inr (12, oX12 r_6_0 mmJ mmR)), ((mmR 37), .inl (cI, 20, .inl mm_baseF)), ((mmR 40), .inl (cI, 500, .inl mm_opsF)), ((mmR 26), .inl (cI, 3200, .inl r_6_1)), ((mmR 27), .inl (cI, 3200, .inl r_6_2))] H := hP
          have hD : va_D A [(a_p0, .inr (12, oX12 r_6_0 mmJ mmR)), ((mmR 37), .inl (cI, 20, .inl mm_baseF)), ((mmR 40), .inl (cI, 500, .inl mm_opsF)), ((mmR 26), .inl (cI, 3200, .inl r_6_1)), ((mmR 27), .inl (cI, 3200, .inl r_6_2))] := hD
          refine W.eq (g2 := F0 m 60 ls []) rfl ?_
          refine lv_aload_n hx hb dX12_joins_60 rfl (lv_at hl 0 rfl) ?_
          refine va_get (D := (dC, dI)) (ci := 12) (v := .ref ((mmR 40))) (C := RX12) (T := TX12) (N := 70) hx hb hts hinX12 hown hK hP 0 rfl rfl 40 (by decide) hw4 (fun _ h9 => h9) rfl dX12_joins_61 ?_
          refine lv_aload_n hx hb dX12_joins_64 rfl (lv_at hl 0 rfl) ?_
          refine va_get (D := (dC, dI)) (ci := 12) (v := .int (r_6_0 41)) (C := RX12) (T := TX12) (N := 70) hx hb hts hinX12 hown hK hP 0 rfl rfl 41 (by decide) hw0 (fun _ h9 => h9) rfl dX12_joins_65 ?_
          refine xq_iald hx hb hK hP 2 0 rfl rfl hf dX12_joins_68 (fun v_8 hf => ?_)
          refine lv_bipush (v := 43) hx hb dX12_joins_69 (by decide) ?_
          refine lv_icmp_ne (tgt := 0) hx hb dX12_joins_71 (by decide) (fun c_ => ?_) (fun c_ => ?_)
          · have hf := xq_neg hf c_
            exact ih0 r_6_0 r_6_1 r_6_2 x1_0 _ _ _ hf hP hD hS (lv_sub hl [0, 1] rfl)
          · have hf := xq_pos hf c_
            refine lv_aload_n hx hb dX12_joins_74 rfl (lv_at hl 0 rfl) ?_
            refine lv_dup hx hb dX12_joins_75 rfl ?_
            refine va_get (D := (dC, dI)) (ci := 12) (v := .int (r_6_0 39)) (C := RX12) (T := TX12) (N := 70) hx hb hts hinX12 hown hK hP 0 rfl rfl 39 (by decide) hw5 (fun _ h9 => h9) rfl dX12_joins_76 ?_
            refine lv_iconst (v := 1) hx hb dX12_joins_79 (by decide) ?_
            refine lv_isub hx hb dX12_joins_80 ?_
            refine va_put (D := (dC, dI)) (ci := 12) (v := .int ((r_6_0 39) - 1)) (ty := .int) (C := RX12) (T := TX12) (N := 70) hx hb hts hinX12 tyX12 tyX12_ok nmX12 hown hK hP hD hS 0 rfl rfl 39 (by decide) hw5 (fun _ h9 => h9) rfl (by decide +kernel) rfl rfl (Nat.le_of_ble_eq_true rfl) dX12_joins_81 (fun H locs hP hD hS => ?_)
            have hP : va_P (dC, dI) vwCl [(a_p0, .inr (12, oX12 (va_up r_6_0 39 ((r_6_0 39) - 1)) mmJ mmR)), ((mmR 37), .inl (cI, 20, .inl mm_baseF)), ((mmR 40), .inl (cI, 500, .inl mm_opsF)), ((mmR 26), .inl (cI, 3200, .inl r_6_1)), ((mmR 27), .inl (cI, 3200, .inl r_6_2))] H := hP
            have hD : va_D A [(a_p0, .inr (12, oX12 (va_up r_6_0 39 ((r_6_0 39) - 1)) mmJ mmR)), ((mmR 37), .inl (cI, 20, .inl mm_baseF)), ((mmR 40), .inl (cI, 500, .inl mm_opsF)), ((mmR 26), .inl (cI, 3200, .inl r_6_1)), ((mmR 27), .inl (cI, 3200, .inl r_6_2))] := hD
            refine lv_goto (tgt := 0) hx hb dX12_joins_84 (by decide) ?_
            exact ih0 ((va_up r_6_0 39 ((r_6_0 39) - 1))) r_6_1 r_6_2 x1_0 _ _ _ hf hP hD hS (lv_sub hl [0, 1] rfl)
  unfold fX12_joins at hf
  exact l0 N mmI mm_codeSortF mm_codeValueF p1 _ _ _ hf hP hD hS (lv_sub hl [0, 1] rfl)
def dsX12_holdsBack_0 : List (Nat × Instr × Nat) := [(0, (.aload_n 0, 1)), (1, (.getfield 134, 3)), (4, (.aload_n 0, 1)), (5, (.getfield 137, 3)), (8, (.iload_n 1, 1)), (9, (.iastore, 1)), (10, (.aload_n 0, 1)), (11, (.dup, 1)), (12, (.getfield 137, 3)), (15, (.iconst 1, 1)), (16, (.iadd, 1)), (17, (.putfield 137, 3)), (20, (.return_, 1))]
theorem dsX12_holdsBack_0_ok : (dsX12_holdsBack_0.all fun q => decide (decode cX12_holdsBack q.1 = .ok q.2)) = true := by decide +kernel
theorem dX12_holdsBack_0 : decode cX12_holdsBack 0 = .ok (.aload_n 0, 1) := of_decide_eq_true (List.all_eq_true.mp dsX12_holdsBack_0_ok (0, (.aload_n 0, 1)) (List.mem_of_getElem? (i := 0) rfl))
theorem dX12_holdsBack_1 : decode cX12_holdsBack 1 = .ok (.getfield 134, 3) := of_decide_eq_true (List.all_eq_true.mp dsX12_holdsBack_0_ok (1, (.getfield 134, 3)) (List.mem_of_getElem? (i := 1) rfl))
theorem dX12_holdsBack_4 : decode cX12_holdsBack 4 = .ok (.aload_n 0, 1) := of_decide_eq_true (List.all_eq_true.mp dsX12_holdsBack_0_ok (4, (.aload_n 0, 1)) (List.mem_of_getElem? (i := 2) rfl))
theorem dX12_holdsBack_5 : decode cX12_holdsBack 5 = .ok (.getfield 137, 3) := of_decide_eq_true (List.all_eq_true.mp dsX12_holdsBack_0_ok (5, (.getfield 137, 3)) (List.mem_of_getElem? (i := 3) rfl))
theorem dX12_holdsBack_8 : decode cX12_holdsBack 8 = .ok (.iload_n 1, 1) := of_decide_eq_true (List.all_eq_true.mp dsX12_holdsBack_0_ok (8, (.iload_n 1, 1)) (List.mem_of_getElem? (i := 4) rfl))
theorem dX12_holdsBack_9 : decode cX12_holdsBack 9 = .ok (.iastore, 1) := of_decide_eq_true (List.all_eq_true.mp dsX12_holdsBack_0_ok (9, (.iastore, 1)) (List.mem_of_getElem? (i := 5) rfl))
theorem dX12_holdsBack_10 : decode cX12_holdsBack 10 = .ok (.aload_n 0, 1) := of_decide_eq_true (List.all_eq_true.mp dsX12_holdsBack_0_ok (10, (.aload_n 0, 1)) (List.mem_of_getElem? (i := 6) rfl))
theorem dX12_holdsBack_11 : decode cX12_holdsBack 11 = .ok (.dup, 1) := of_decide_eq_true (List.all_eq_true.mp dsX12_holdsBack_0_ok (11, (.dup, 1)) (List.mem_of_getElem? (i := 7) rfl))
theorem dX12_holdsBack_12 : decode cX12_holdsBack 12 = .ok (.getfield 137, 3) := of_decide_eq_true (List.all_eq_true.mp dsX12_holdsBack_0_ok (12, (.getfield 137, 3)) (List.mem_of_getElem? (i := 8) rfl))
theorem dX12_holdsBack_15 : decode cX12_holdsBack 15 = .ok (.iconst 1, 1) := of_decide_eq_true (List.all_eq_true.mp dsX12_holdsBack_0_ok (15, (.iconst 1, 1)) (List.mem_of_getElem? (i := 9) rfl))
theorem dX12_holdsBack_16 : decode cX12_holdsBack 16 = .ok (.iadd, 1) := of_decide_eq_true (List.all_eq_true.mp dsX12_holdsBack_0_ok (16, (.iadd, 1)) (List.mem_of_getElem? (i := 10) rfl))
theorem dX12_holdsBack_17 : decode cX12_holdsBack 17 = .ok (.putfield 137, 3) := of_decide_eq_true (List.all_eq_true.mp dsX12_holdsBack_0_ok (17, (.putfield 137, 3)) (List.mem_of_getElem? (i := 11) rfl))
theorem dX12_holdsBack_20 : decode cX12_holdsBack 20 = .ok (.return_, 1) := of_decide_eq_true (List.all_eq_true.mp dsX12_holdsBack_0_ok (20, (.return_, 1)) (List.mem_of_getElem? (i := 12) rfl))
def fX12_holdsBack (N : Nat) (mmI : Nat → Int32) (mm_opsF : Nat → Int32)  (p1 : Int32) : Option ((Nat → Int32) × (Nat → Int32)) :=
  (xq_bd (xq_ast 500 mm_opsF (mmI 41) p1) fun g_1 => some (((va_up mmI 41 ((mmI 41) + 1)), g_1)))
set_option maxHeartbeats 4000000 in
set_option maxRecDepth 100000 in
theorem kX12_holdsBack (l : Launch) (dC : Nat → ClassId) (dI : Nat → Nat → Nat) (cI cB cJ cZ cM : ClassId) (z : Nat) (ad : Nat → Nat) (N : Nat) (a_p0 : Nat) (mmI : Nat → Int32) (mmJ : Nat → Int64) (mmR : Nat → Nat) (mm_opsF : Nat → Int32) (p1 : Int32) {r0 : Nat → Int32} {r1 : Nat → Int32} (hf : fX12_holdsBack N mmI mm_opsF p1 = some (r0, r1)) : xq_Ct l yX12_holdsBack wsX12_holdsBack { frames := 0, cells := 0, slots := 0, locals := 0 } (dC, dI) vwCl (xq_tys cI cB cJ cZ cM) z ad [.ref a_p0, .int p1] [(a_p0, .inr (12, oX12 mmI mmJ mmR)), ((mmR 40), .inl (cI, 500, .inl mm_opsF))] [(a_p0, .inr (12, oX12 r0 mmJ mmR)), ((mmR 40), .inl (cI, 500, .inl r1))] none := by
  intro sz
  refine Met.ofW (cc := cX12_holdsBack) (maxL := 2) (ret := none) (by decide) rfl ?_
  intro p e s m args below meth c s₁ B hml hv
  obtain ⟨rfl, hsz, hP, hK, hD0, hE, hz⟩ := hv
  have hx := B.exec
  have hb := B.bytes
  have hr := B.returns
  have hts := atoms_spec (ws := wsX12_holdsBack) B.pre
  have hown : s.vm.findClass RX12 = some m.cls := findClass_of_methodNamed B.named
  have hlocks := B.notSynchronized
  subst hsz
  have hD := hD0.self (sz := s.heap.size)
  have hN := xq_Env.of hE hz hD0
  generalize hAe : va_A [(a_p0, .inr (12, oX12 mmI mmJ mmR)), ((mmR 40), .inl (cI, 500, .inl mm_opsF))] s.heap.size = A at hD hN ⊢
  have hA : ∀ q : Nat, s.heap.size ≤ q → A q := fun q h => by rw [← hAe]; exact Or.inr h
  clear hAe hD0
  have hS : va_S A s.heap s.heap [] := va_S.rf
  have hl := lv_entry ([.ref a_p0, .int p1]) (n := 2) (Nat.le_of_ble_eq_true rfl)
  rw [lg_entry_eq]
  generalize (lg_sl ([.ref a_p0, .int p1]) ++ List.replicate (2 - (lg_sl ([.ref a_p0, .int p1])).length) Slot.unset).toArray = ls at hl ⊢
  have hl : lv_has ls 2 [(0, .ref a_p0), (1, .int p1)] := hl
  have hw0 := hts (.fieldLink RX12 134 "DistantVoiceModel" "ops" "[I") (by decide +kernel)
  have hinX12 : ∀ w ∈ wsX120, w ∈ wsX12_holdsBack := fun w h => List.mem_cons_of_mem _ (List.mem_append_right _ h)
  have hw2 := hts (.fieldLink RX12 137 "DistantVoiceModel" "opMany" "I") (by decide +kernel)
  unfold fX12_holdsBack at hf
  refine lv_aload_n hx hb dX12_holdsBack_0 rfl (lv_at hl 0 rfl) ?_
  refine va_get (D := (dC, dI)) (ci := 12) (v := .ref ((mmR 40))) (C := RX12) (T := TX12) (N := 70) hx hb hts hinX12 hown hK hP 0 rfl rfl 40 (by decide) hw0 (fun _ h9 => h9) rfl dX12_holdsBack_1 ?_
  refine lv_aload_n hx hb dX12_holdsBack_4 rfl (lv_at hl 0 rfl) ?_
  refine va_get (D := (dC, dI)) (ci := 12) (v := .int (mmI 41)) (C := RX12) (T := TX12) (N := 70) hx hb hts hinX12 hown hK hP 0 rfl rfl 41 (by decide) hw2 (fun _ h9 => h9) rfl dX12_holdsBack_5 ?_
  refine lv_iload_n hx hb dX12_holdsBack_8 rfl (lv_at hl 1 rfl) ?_
  refine xq_iast hx hb hK hP hD hS 1 0 rfl rfl hf dX12_holdsBack_9 (fun g_1 H locs hf hP hD hS => ?_)
  have hP : va_P (dC, dI) vwCl [(a_p0, .inr (12, oX12 mmI mmJ mmR)), ((mmR 40), .inl (cI, 500, .inl g_1))] H := hP
  have hD : va_D A [(a_p0, .inr (12, oX12 mmI mmJ mmR)), ((mmR 40), .inl (cI, 500, .inl g_1))] := hD
  refine lv_aload_n hx hb dX12_holdsBack_10 rfl (lv_at hl 0 rfl) ?_
  refine lv_dup hx hb dX12_holdsBack_11 rfl ?_
  refine va_get (D := (dC, dI)) (ci := 12) (v := .int (mmI 41)) (C := RX12) (T := TX12) (N := 70) hx hb hts hinX12 hown hK hP 0 rfl rfl 41 (by decide) hw2 (fun _ h9 => h9) rfl dX12_holdsBack_12 ?_
  refine lv_iconst (v := 1) hx hb dX12_holdsBack_15 (by decide) ?_
  refine lv_iadd hx hb dX12_holdsBack_16 ?_
  refine va_put (D := (dC, dI)) (ci := 12) (v := .int ((mmI 41) + 1)) (ty := .int) (C := RX12) (T := TX12) (N := 70) hx hb hts hinX12 tyX12 tyX12_ok nmX12 hown hK hP hD hS 0 rfl rfl 41 (by decide) hw2 (fun _ h9 => h9) rfl (by decide +kernel) rfl rfl (Nat.le_of_ble_eq_true rfl) dX12_holdsBack_17 (fun H locs hP hD hS => ?_)
  have hP : va_P (dC, dI) vwCl [(a_p0, .inr (12, oX12 (va_up mmI 41 ((mmI 41) + 1)) mmJ mmR)), ((mmR 40), .inl (cI, 500, .inl g_1))] H := hP
  have hD : va_D A [(a_p0, .inr (12, oX12 (va_up mmI 41 ((mmI 41) + 1)) mmJ mmR)), ((mmR 40), .inl (cI, 500, .inl g_1))] := hD
  have hP9 := hP
  have hD9 := hD
  have hS9 := hS
  cases hf
  exact xq_vret hx hb hr hlocks hK hP9 hD9 hS9 dX12_holdsBack_20
def dsX12_pushes_0 : List (Nat × Instr × Nat) := [(0, (.aload_n 0, 1)), (1, (.getfield 112, 3)), (4, (.aload_n 0, 1)), (5, (.getfield 128, 3)), (8, (.iload_n 1, 1)), (9, (.iastore, 1)), (10, (.aload_n 0, 1)), (11, (.getfield 115, 3)), (14, (.aload_n 0, 1)), (15, (.getfield 128, 3)), (18, (.iconst 0, 1)), (19, (.iastore, 1)), (20, (.aload_n 0, 1)), (21, (.getfield 118, 3)), (24, (.aload_n 0, 1)), (25, (.getfield 128, 3)), (28, (.iconst 1, 1)), (29, (.bastore, 1)), (30, (.aload_n 0, 1)), (31, (.getfield 125, 3)), (34, (.aload_n 0, 1)), (35, (.getfield 128, 3)), (38, (.aload_n 0, 1)), (39, (.getfield 137, 3)), (42, (.iastore, 1)), (43, (.aload_n 0, 1)), (44, (.dup, 1)), (45, (.getfield 128, 3)), (48, (.iconst 1, 1)), (49, (.iadd, 1)), (50, (.putfield 128, 3)), (53, (.return_, 1))]
theorem dsX12_pushes_0_ok : (dsX12_pushes_0.all fun q => decide (decode cX12_pushes q.1 = .ok q.2)) = true := by decide +kernel
theorem dX12_pushes_0 : decode cX12_pushes 0 = .ok (.aload_n 0, 1) := of_decide_eq_true (List.all_eq_true.mp dsX12_pushes_0_ok (0, (.aload_n 0, 1)) (List.mem_of_getElem? (i := 0) rfl))
theorem dX12_pushes_1 : decode cX12_pushes 1 = .ok (.getfield 112, 3) := of_decide_eq_true (List.all_eq_true.mp dsX12_pushes_0_ok (1, (.getfield 112, 3)) (List.mem_of_getElem? (i := 1) rfl))
theorem dX12_pushes_4 : decode cX12_pushes 4 = .ok (.aload_n 0, 1) := of_decide_eq_true (List.all_eq_true.mp dsX12_pushes_0_ok (4, (.aload_n 0, 1)) (List.mem_of_getElem? (i := 2) rfl))
theorem dX12_pushes_5 : decode cX12_pushes 5 = .ok (.getfield 128, 3) := of_decide_eq_true (List.all_eq_true.mp dsX12_pushes_0_ok (5, (.getfield 128, 3)) (List.mem_of_getElem? (i := 3) rfl))
theorem dX12_pushes_8 : decode cX12_pushes 8 = .ok (.iload_n 1, 1) := of_decide_eq_true (List.all_eq_true.mp dsX12_pushes_0_ok (8, (.iload_n 1, 1)) (List.mem_of_getElem? (i := 4) rfl))
theorem dX12_pushes_9 : decode cX12_pushes 9 = .ok (.iastore, 1) := of_decide_eq_true (List.all_eq_true.mp dsX12_pushes_0_ok (9, (.iastore, 1)) (List.mem_of_getElem? (i := 5) rfl))
theorem dX12_pushes_10 : decode cX12_pushes 10 = .ok (.aload_n 0, 1) := of_decide_eq_true (List.all_eq_true.mp dsX12_pushes_0_ok (10, (.aload_n 0, 1)) (List.mem_of_getElem? (i := 6) rfl))
theorem dX12_pushes_11 : decode cX12_pushes 11 = .ok (.getfield 115, 3) := of_decide_eq_true (List.all_eq_true.mp dsX12_pushes_0_ok (11, (.getfield 115, 3)) (List.mem_of_getElem? (i := 7) rfl))
theorem dX12_pushes_14 : decode cX12_pushes 14 = .ok (.aload_n 0, 1) := of_decide_eq_true (List.all_eq_true.mp dsX12_pushes_0_ok (14, (.aload_n 0, 1)) (List.mem_of_getElem? (i := 8) rfl))
theorem dX12_pushes_15 : decode cX12_pushes 15 = .ok (.getfield 128, 3) := of_decide_eq_true (List.all_eq_true.mp dsX12_pushes_0_ok (15, (.getfield 128, 3)) (List.mem_of_getElem? (i := 9) rfl))
theorem dX12_pushes_18 : decode cX12_pushes 18 = .ok (.iconst 0, 1) := of_decide_eq_true (List.all_eq_true.mp dsX12_pushes_0_ok (18, (.iconst 0, 1)) (List.mem_of_getElem? (i := 10) rfl))
theorem dX12_pushes_19 : decode cX12_pushes 19 = .ok (.iastore, 1) := of_decide_eq_true (List.all_eq_true.mp dsX12_pushes_0_ok (19, (.iastore, 1)) (List.mem_of_getElem? (i := 11) rfl))
theorem dX12_pushes_20 : decode cX12_pushes 20 = .ok (.aload_n 0, 1) := of_decide_eq_true (List.all_eq_true.mp dsX12_pushes_0_ok (20, (.aload_n 0, 1)) (List.mem_of_getElem? (i := 12) rfl))
theorem dX12_pushes_21 : decode cX12_pushes 21 = .ok (.getfield 118, 3) := of_decide_eq_true (List.all_eq_true.mp dsX12_pushes_0_ok (21, (.getfield 118, 3)) (List.mem_of_getElem? (i := 13) rfl))
theorem dX12_pushes_24 : decode cX12_pushes 24 = .ok (.aload_n 0, 1) := of_decide_eq_true (List.all_eq_true.mp dsX12_pushes_0_ok (24, (.aload_n 0, 1)) (List.mem_of_getElem? (i := 14) rfl))
theorem dX12_pushes_25 : decode cX12_pushes 25 = .ok (.getfield 128, 3) := of_decide_eq_true (List.all_eq_true.mp dsX12_pushes_0_ok (25, (.getfield 128, 3)) (List.mem_of_getElem? (i := 15) rfl))
theorem dX12_pushes_28 : decode cX12_pushes 28 = .ok (.iconst 1, 1) := of_decide_eq_true (List.all_eq_true.mp dsX12_pushes_0_ok (28, (.iconst 1, 1)) (List.mem_of_getElem? (i := 16) rfl))
theorem dX12_pushes_29 : decode cX12_pushes 29 = .ok (.bastore, 1) := of_decide_eq_true (List.all_eq_true.mp dsX12_pushes_0_ok (29, (.bastore, 1)) (List.mem_of_getElem? (i := 17) rfl))
theorem dX12_pushes_30 : decode cX12_pushes 30 = .ok (.aload_n 0, 1) := of_decide_eq_true (List.all_eq_true.mp dsX12_pushes_0_ok (30, (.aload_n 0, 1)) (List.mem_of_getElem? (i := 18) rfl))
theorem dX12_pushes_31 : decode cX12_pushes 31 = .ok (.getfield 125, 3) := of_decide_eq_true (List.all_eq_true.mp dsX12_pushes_0_ok (31, (.getfield 125, 3)) (List.mem_of_getElem? (i := 19) rfl))
theorem dX12_pushes_34 : decode cX12_pushes 34 = .ok (.aload_n 0, 1) := of_decide_eq_true (List.all_eq_true.mp dsX12_pushes_0_ok (34, (.aload_n 0, 1)) (List.mem_of_getElem? (i := 20) rfl))
theorem dX12_pushes_35 : decode cX12_pushes 35 = .ok (.getfield 128, 3) := of_decide_eq_true (List.all_eq_true.mp dsX12_pushes_0_ok (35, (.getfield 128, 3)) (List.mem_of_getElem? (i := 21) rfl))
theorem dX12_pushes_38 : decode cX12_pushes 38 = .ok (.aload_n 0, 1) := of_decide_eq_true (List.all_eq_true.mp dsX12_pushes_0_ok (38, (.aload_n 0, 1)) (List.mem_of_getElem? (i := 22) rfl))
theorem dX12_pushes_39 : decode cX12_pushes 39 = .ok (.getfield 137, 3) := of_decide_eq_true (List.all_eq_true.mp dsX12_pushes_0_ok (39, (.getfield 137, 3)) (List.mem_of_getElem? (i := 23) rfl))
theorem dX12_pushes_42 : decode cX12_pushes 42 = .ok (.iastore, 1) := of_decide_eq_true (List.all_eq_true.mp dsX12_pushes_0_ok (42, (.iastore, 1)) (List.mem_of_getElem? (i := 24) rfl))
theorem dX12_pushes_43 : decode cX12_pushes 43 = .ok (.aload_n 0, 1) := of_decide_eq_true (List.all_eq_true.mp dsX12_pushes_0_ok (43, (.aload_n 0, 1)) (List.mem_of_getElem? (i := 25) rfl))
theorem dX12_pushes_44 : decode cX12_pushes 44 = .ok (.dup, 1) := of_decide_eq_true (List.all_eq_true.mp dsX12_pushes_0_ok (44, (.dup, 1)) (List.mem_of_getElem? (i := 26) rfl))
theorem dX12_pushes_45 : decode cX12_pushes 45 = .ok (.getfield 128, 3) := of_decide_eq_true (List.all_eq_true.mp dsX12_pushes_0_ok (45, (.getfield 128, 3)) (List.mem_of_getElem? (i := 27) rfl))
theorem dX12_pushes_48 : decode cX12_pushes 48 = .ok (.iconst 1, 1) := of_decide_eq_true (List.all_eq_true.mp dsX12_pushes_0_ok (48, (.iconst 1, 1)) (List.mem_of_getElem? (i := 28) rfl))
theorem dX12_pushes_49 : decode cX12_pushes 49 = .ok (.iadd, 1) := of_decide_eq_true (List.all_eq_true.mp dsX12_pushes_0_ok (49, (.iadd, 1)) (List.mem_of_getElem? (i := 29) rfl))
theorem dX12_pushes_50 : decode cX12_pushes 50 = .ok (.putfield 128, 3) := of_decide_eq_true (List.all_eq_true.mp dsX12_pushes_0_ok (50, (.putfield 128, 3)) (List.mem_of_getElem? (i := 30) rfl))
theorem dX12_pushes_53 : decode cX12_pushes 53 = .ok (.return_, 1) := of_decide_eq_true (List.all_eq_true.mp dsX12_pushes_0_ok (53, (.return_, 1)) (List.mem_of_getElem? (i := 31) rfl))
def fX12_pushes (N : Nat) (mmI : Nat → Int32) (mm_frameF : Nat → Int32) (mm_phaseF : Nat → Int32) (mm_beginsF : Nat → Int32) (mm_baseF : Nat → Int32)  (p1 : Int32) : Option ((Nat → Int32) × (Nat → Int32) × (Nat → Int32) × (Nat → Int32) × (Nat → Int32)) :=
  (xq_bd (xq_ast 20 mm_frameF (mmI 38) p1) fun g_1 => (xq_bd (xq_ast 20 mm_phaseF (mmI 38) 0) fun g_2 => (xq_bd (xq_ast 20 mm_beginsF (mmI 38) (vp_nar .boolean 1)) fun g_3 => (xq_bd (xq_ast 20 mm_baseF (mmI 38) (mmI 41)) fun g_4 => some (((va_up mmI 38 ((mmI 38) + 1)), g_1, g_2, g_3, g_4))))))
set_option maxHeartbeats 4000000 in
set_option maxRecDepth 100000 in
theorem kX12_pushes (l : Launch) (dC : Nat → ClassId) (dI : Nat → Nat → Nat) (cI cB cJ cZ cM : ClassId) (z : Nat) (ad : Nat → Nat) (N : Nat) (a_p0 : Nat) (mmI : Nat → Int32) (mmJ : Nat → Int64) (mmR : Nat → Nat) (mm_frameF : Nat → Int32) (mm_phaseF : Nat → Int32) (mm_beginsF : Nat → Int32) (mm_baseF : Nat → Int32) (p1 : Int32) {r0 : Nat → Int32} {r1 : Nat → Int32} {r2 : Nat → Int32} {r3 : Nat → Int32} {r4 : Nat → Int32} (hf : fX12_pushes N mmI mm_frameF mm_phaseF mm_beginsF mm_baseF p1 = some (r0, r1, r2, r3, r4)) : xq_Ct l yX12_pushes wsX12_pushes { frames := 0, cells := 0, slots := 0, locals := 0 } (dC, dI) vwCl (xq_tys cI cB cJ cZ cM) z ad [.ref a_p0, .int p1] [(a_p0, .inr (12, oX12 mmI mmJ mmR)), ((mmR 33), .inl (cI, 20, .inl mm_frameF)), ((mmR 34), .inl (cI, 20, .inl mm_phaseF)), ((mmR 35), .inl (cZ, 20, .inl mm_beginsF)), ((mmR 37), .inl (cI, 20, .inl mm_baseF))] [(a_p0, .inr (12, oX12 r0 mmJ mmR)), ((mmR 33), .inl (cI, 20, .inl r1)), ((mmR 34), .inl (cI, 20, .inl r2)), ((mmR 35), .inl (cZ, 20, .inl r3)), ((mmR 37), .inl (cI, 20, .inl r4))] none := by
  intro sz
  refine Met.ofW (cc := cX12_pushes) (maxL := 2) (ret := none) (by decide) rfl ?_
  intro p e s m args below meth c s₁ B hml hv
  obtain ⟨rfl, hsz, hP, hK, hD0, hE, hz⟩ := hv
  have hx := B.exec
  have hb := B.bytes
  have hr := B.returns
  have hts := atoms_spec (ws := wsX12_pushes) B.pre
  have hown : s.vm.findClass RX12 = some m.cls := findClass_of_methodNamed B.named
  have hlocks := B.notSynchronized
  subst hsz
  have hD := hD0.self (sz := s.heap.size)
  have hN := xq_Env.of hE hz hD0
  generalize hAe : va_A [(a_p0, .inr (12, oX12 mmI mmJ mmR)), ((mmR 33), .inl (cI, 20, .inl mm_frameF)), ((mmR 34), .inl (cI, 20, .inl mm_phaseF)), ((mmR 35), .inl (cZ, 20, .inl mm_beginsF)), ((mmR 37), .inl (cI, 20, .inl mm_baseF))] s.heap.size = A at hD hN ⊢
  have hA : ∀ q : Nat, s.heap.size ≤ q → A q := fun q h => by rw [← hAe]; exact Or.inr h
  clear hAe hD0
  have hS : va_S A s.heap s.heap [] := va_S.rf
  have hl := lv_entry ([.ref a_p0, .int p1]) (n := 2) (Nat.le_of_ble_eq_true rfl)
  rw [lg_entry_eq]
  generalize (lg_sl ([.ref a_p0, .int p1]) ++ List.replicate (2 - (lg_sl ([.ref a_p0, .int p1])).length) Slot.unset).toArray = ls at hl ⊢
  have hl : lv_has ls 2 [(0, .ref a_p0), (1, .int p1)] := hl
  have hw0 := hts (.fieldLink RX12 112 "DistantVoiceModel" "frame" "[I") (by decide +kernel)
  have hinX12 : ∀ w ∈ wsX120, w ∈ wsX12_pushes := fun w h => List.mem_cons_of_mem _ (List.mem_append_right _ h)
  have hw2 := hts (.fieldLink RX12 128 "DistantVoiceModel" "deep" "I") (by decide +kernel)
  have hw3 := hts (.fieldLink RX12 115 "DistantVoiceModel" "phase" "[I") (by decide +kernel)
  have hw4 := hts (.fieldLink RX12 118 "DistantVoiceModel" "begins" "[Z") (by decide +kernel)
  have hw5 := hts (.fieldLink RX12 125 "DistantVoiceModel" "base" "[I") (by decide +kernel)
  have hw6 := hts (.fieldLink RX12 137 "DistantVoiceModel" "opMany" "I") (by decide +kernel)
  unfold fX12_pushes at hf
  refine lv_aload_n hx hb dX12_pushes_0 rfl (lv_at hl 0 rfl) ?_
  refine va_get (D := (dC, dI)) (ci := 12) (v := .ref ((mmR 33))) (C := RX12) (T := TX12) (N := 70) hx hb hts hinX12 hown hK hP 0 rfl rfl 33 (by decide) hw0 (fun _ h9 => h9) rfl dX12_pushes_1 ?_
  refine lv_aload_n hx hb dX12_pushes_4 rfl (lv_at hl 0 rfl) ?_
  refine va_get (D := (dC, dI)) (ci := 12) (v := .int (mmI 38)) (C := RX12) (T := TX12) (N := 70) hx hb hts hinX12 hown hK hP 0 rfl rfl 38 (by decide) hw2 (fun _ h9 => h9) rfl dX12_pushes_5 ?_
  refine lv_iload_n hx hb dX12_pushes_8 rfl (lv_at hl 1 rfl) ?_
  refine xq_iast hx hb hK hP hD hS 1 0 rfl rfl hf dX12_pushes_9 (fun g_1 H locs hf hP hD hS => ?_)
  have hP : va_P (dC, dI) vwCl [(a_p0, .inr (12, oX12 mmI mmJ mmR)), ((mmR 33), .inl (cI, 20, .inl g_1)), ((mmR 34), .inl (cI, 20, .inl mm_phaseF)), ((mmR 35), .inl (cZ, 20, .inl mm_beginsF)), ((mmR 37), .inl (cI, 20, .inl mm_baseF))] H := hP
  have hD : va_D A [(a_p0, .inr (12, oX12 mmI mmJ mmR)), ((mmR 33), .inl (cI, 20, .inl g_1)), ((mmR 34), .inl (cI, 20, .inl mm_phaseF)), ((mmR 35), .inl (cZ, 20, .inl mm_beginsF)), ((mmR 37), .inl (cI, 20, .inl mm_baseF))] := hD
  refine lv_aload_n hx hb dX12_pushes_10 rfl (lv_at hl 0 rfl) ?_
  refine va_get (D := (dC, dI)) (ci := 12) (v := .ref ((mmR 34))) (C := RX12) (T := TX12) (N := 70) hx hb hts hinX12 hown hK hP 0 rfl rfl 34 (by decide) hw3 (fun _ h9 => h9) rfl dX12_pushes_11 ?_
  refine lv_aload_n hx hb dX12_pushes_14 rfl (lv_at hl 0 rfl) ?_
  refine va_get (D := (dC, dI)) (ci := 12) (v := .int (mmI 38)) (C := RX12) (T := TX12) (N := 70) hx hb hts hinX12 hown hK hP 0 rfl rfl 38 (by decide) hw2 (fun _ h9 => h9) rfl dX12_pushes_15 ?_
  refine lv_iconst (v := 0) hx hb dX12_pushes_18 (by decide) ?_
  refine xq_iast hx hb hK hP hD hS 2 0 rfl rfl hf dX12_pushes_19 (fun g_2 H locs hf hP hD hS => ?_)
  have hP : va_P (dC, dI) vwCl [(a_p0, .inr (12, oX12 mmI mmJ mmR)), ((mmR 33), .inl (cI, 20, .inl g_1)), ((mmR 34), .inl (cI, 20, .inl g_2)), ((mmR 35), .inl (cZ, 20, .inl mm_beginsF)), ((mmR 37), .inl (cI, 20, .inl mm_baseF))] H := hP
  have hD : va_D A [(a_p0, .inr (12, oX12 mmI mmJ mmR)), ((mmR 33), .inl (cI, 20, .inl g_1)), ((mmR 34), .inl (cI, 20, .inl g_2)), ((mmR 35), .inl (cZ, 20, .inl mm_beginsF)), ((mmR 37), .inl (cI, 20, .inl mm_baseF))] := hD
  refine lv_aload_n hx hb dX12_pushes_20 rfl (lv_at hl 0 rfl) ?_
  refine va_get (D := (dC, dI)) (ci := 12) (v := .ref ((mmR 35))) (C := RX12) (T := TX12) (N := 70) hx hb hts hinX12 hown hK hP 0 rfl rfl 35 (by decide) hw4 (fun _ h9 => h9) rfl dX12_pushes_21 ?_
  refine lv_aload_n hx hb dX12_pushes_24 rfl (lv_at hl 0 rfl) ?_
  refine va_get (D := (dC, dI)) (ci := 12) (v := .int (mmI 38)) (C := RX12) (T := TX12) (N := 70) hx hb hts hinX12 hown hK hP 0 rfl rfl 38 (by decide) hw2 (fun _ h9 => h9) rfl dX12_pushes_25 ?_
  refine lv_iconst (v := 1) hx hb dX12_pushes_28 (by decide) ?_
  refine xq_zast hx hb hK hP hD hS 3 3 rfl rfl hf dX12_pushes_29 (fun g_3 H locs hf hP hD hS => ?_)
  have hP : va_P (dC, dI) vwCl [(a_p0, .inr (12, oX12 mmI mmJ mmR)), ((mmR 33), .inl (cI, 20, .inl g_1)), ((mmR 34), .inl (cI, 20, .inl g_2)), ((mmR 35), .inl (cZ, 20, .inl g_3)), ((mmR 37), .inl (cI, 20, .inl mm_baseF))] H := hP
  have hD : va_D A [(a_p0, .inr (12, oX12 mmI mmJ mmR)), ((mmR 33), .inl (cI, 20, .inl g_1)), ((mmR 34), .inl (cI, 20, .inl g_2)), ((mmR 35), .inl (cZ, 20, .inl g_3)), ((mmR 37), .inl (cI, 20, .inl mm_baseF))] := hD
  refine lv_aload_n hx hb dX12_pushes_30 rfl (lv_at hl 0 rfl) ?_
  refine va_get (D := (dC, dI)) (ci := 12) (v := .ref ((mmR 37))) (C := RX12) (T := TX12) (N := 70) hx hb hts hinX12 hown hK hP 0 rfl rfl 37 (by decide) hw5 (fun _ h9 => h9) rfl dX12_pushes_31 ?_
  refine lv_aload_n hx hb dX12_pushes_34 rfl (lv_at hl 0 rfl) ?_
  refine va_get (D := (dC, dI)) (ci := 12) (v := .int (mmI 38)) (C := RX12) (T := TX12) (N := 70) hx hb hts hinX12 hown hK hP 0 rfl rfl 38 (by decide) hw2 (fun _ h9 => h9) rfl dX12_pushes_35 ?_
  refine lv_aload_n hx hb dX12_pushes_38 rfl (lv_at hl 0 rfl) ?_
  refine va_get (D := (dC, dI)) (ci := 12) (v := .int (mmI 41)) (C := RX12) (T := TX12) (N := 70) hx hb hts hinX12 hown hK hP 0 rfl rfl 41 (by decide) hw6 (fun _ h9 => h9) rfl dX12_pushes_39 ?_
  refine xq_iast hx hb hK hP hD hS 4 0 rfl rfl hf dX12_pushes_42 (fun g_4 H locs hf hP hD hS => ?_)
  have hP : va_P (dC, dI) vwCl [(a_p0, .inr (12, oX12 mmI mmJ mmR)), ((mmR 33), .inl (cI, 20, .inl g_1)), ((mmR 34), .inl (cI, 20, .inl g_2)), ((mmR 35), .inl (cZ, 20, .inl g_3)), ((mmR 37), .inl (cI, 20, .inl g_4))] H := hP
  have hD : va_D A [(a_p0, .inr (12, oX12 mmI mmJ mmR)), ((mmR 33), .inl (cI, 20, .inl g_1)), ((mmR 34), .inl (cI, 20, .inl g_2)), ((mmR 35), .inl (cZ, 20, .inl g_3)), ((mmR 37), .inl (cI, 20, .inl g_4))] := hD
  refine lv_aload_n hx hb dX12_pushes_43 rfl (lv_at hl 0 rfl) ?_
  refine lv_dup hx hb dX12_pushes_44 rfl ?_
  refine va_get (D := (dC, dI)) (ci := 12) (v := .int (mmI 38)) (C := RX12) (T := TX12) (N := 70) hx hb hts hinX12 hown hK hP 0 rfl rfl 38 (by decide) hw2 (fun _ h9 => h9) rfl dX12_pushes_45 ?_
  refine lv_iconst (v := 1) hx hb dX12_pushes_48 (by decide) ?_
  refine lv_iadd hx hb dX12_pushes_49 ?_
  refine va_put (D := (dC, dI)) (ci := 12) (v := .int ((mmI 38) + 1)) (ty := .int) (C := RX12) (T := TX12) (N := 70) hx hb hts hinX12 tyX12 tyX12_ok nmX12 hown hK hP hD hS 0 rfl rfl 38 (by decide) hw2 (fun _ h9 => h9) rfl (by decide +kernel) rfl rfl (Nat.le_of_ble_eq_true rfl) dX12_pushes_50 (fun H locs hP hD hS => ?_)
  have hP : va_P (dC, dI) vwCl [(a_p0, .inr (12, oX12 (va_up mmI 38 ((mmI 38) + 1)) mmJ mmR)), ((mmR 33), .inl (cI, 20, .inl g_1)), ((mmR 34), .inl (cI, 20, .inl g_2)), ((mmR 35), .inl (cZ, 20, .inl g_3)), ((mmR 37), .inl (cI, 20, .inl g_4))] H := hP
  have hD : va_D A [(a_p0, .inr (12, oX12 (va_up mmI 38 ((mmI 38) + 1)) mmJ mmR)), ((mmR 33), .inl (cI, 20, .inl g_1)), ((mmR 34), .inl (cI, 20, .inl g_2)), ((mmR 35), .inl (cZ, 20, .inl g_3)), ((mmR 37), .inl (cI, 20, .inl g_4))] := hD
  have hP9 := hP
  have hD9 := hD
  have hS9 := hS
  cases hf
  exact xq_vret hx hb hr hlocks hK hP9 hD9 hS9 dX12_pushes_53
set_option maxRecDepth 20000 in
theorem ggX12_opens_X12_blame : GoodIn wsX12_opens wsX12_blame := goodIn_r _ [8, 3, 9, 37, 38, 39, 40, 41, 42, 43, 44, 45, 46, 47, 48, 49, 50, 51, 52, 53, 54, 55, 56, 57, 58, 59, 60, 61, 62, 63, 64, 65, 66, 67, 68, 69, 70, 71, 72, 73, 74, 75, 76, 77, 78, 79, 80, 81, 82, 83, 84, 85, 86, 87, 88, 89, 90, 91, 92, 93, 94, 95, 96, 97, 98, 99, 100, 101, 102, 103, 104, 105, 106] rfl (by decide +kernel)
set_option maxRecDepth 20000 in
theorem gX12_opens_X12_blame : GoodIn wsX12_opens (wsV RX12 233 RX12 yX12_blame wsX12_blame) := goodIn_app (goodIn_of _ (by decide +kernel)) ggX12_opens_X12_blame
set_option maxRecDepth 20000 in
theorem ggX12_opens_X12_ahead : GoodIn wsX12_opens wsX12_ahead := goodIn_r _ [13, 14, 15, 16, 2, 17, 18, 19, 20, 21, 22, 7, 23, 24, 25, 26, 37, 38, 39, 40, 41, 42, 43, 44, 45, 46, 47, 48, 49, 50, 51, 52, 53, 54, 55, 56, 57, 58, 59, 60, 61, 62, 63, 64, 65, 66, 67, 68, 69, 70, 71, 72, 73, 74, 75, 76, 77, 78, 79, 80, 81, 82, 83, 84, 85, 86, 87, 88, 89, 90, 91, 92, 93, 94, 95, 96, 97, 98, 99, 100, 101, 102, 103, 104, 105, 106] rfl (by decide +kernel)
set_option maxRecDepth 20000 in
theorem gX12_opens_X12_ahead : GoodIn wsX12_opens (wsV RX12 250 RX12 yX12_ahead wsX12_ahead) := goodIn_app (goodIn_of _ (by decide +kernel)) ggX12_opens_X12_ahead
set_option maxRecDepth 20000 in
theorem ggX12_opens_X12_pushes : GoodIn wsX12_opens wsX12_pushes := goodIn_r _ [30, 31, 32, 33, 34, 35, 36, 37, 38, 39, 40, 41, 42, 43, 44, 45, 46, 47, 48, 49, 50, 51, 52, 53, 54, 55, 56, 57, 58, 59, 60, 61, 62, 63, 64, 65, 66, 67, 68, 69, 70, 71, 72, 73, 74, 75, 76, 77, 78, 79, 80, 81, 82, 83, 84, 85, 86, 87, 88, 89, 90, 91, 92, 93, 94, 95, 96, 97, 98, 99, 100, 101, 102, 103, 104, 105, 106] rfl (by decide +kernel)
set_option maxRecDepth 20000 in
theorem gX12_opens_X12_pushes : GoodIn wsX12_opens (wsV RX12 311 RX12 yX12_pushes wsX12_pushes) := goodIn_app (goodIn_of _ (by decide +kernel)) ggX12_opens_X12_pushes
def dsX12_opens_0 : List (Nat × Instr × Nat) := [(0, (.aload_n 0, 1)), (1, (.getfield 131, 3)), (4, (.bipush 7, 2)), (6, (.if_icmp .ne 12, 3)), (9, (.aload_n 0, 1)), (10, (.iconst 5, 1)), (11, (.aload_n 0, 1)), (12, (.getfield 23, 3)), (15, (.invokevirtual 233, 3)), (18, (.aload_n 0, 1)), (19, (.getfield 36, 3)), (22, (.ifCond .le 4, 3)), (25, (.return_, 1)), (26, (.aload_n 0, 1)), (27, (.dup, 1)), (28, (.getfield 131, 3)), (31, (.iconst 1, 1)), (32, (.iadd, 1)), (33, (.putfield 131, 3)), (36, (.aload_n 0, 1)), (37, (.invokevirtual 250, 3)), (40, (.aload_n 0, 1)), (41, (.iload_n 1, 1)), (42, (.invokevirtual 311, 3)), (45, (.return_, 1))]
theorem dsX12_opens_0_ok : (dsX12_opens_0.all fun q => decide (decode cX12_opens q.1 = .ok q.2)) = true := by decide +kernel
theorem dX12_opens_0 : decode cX12_opens 0 = .ok (.aload_n 0, 1) := of_decide_eq_true (List.all_eq_true.mp dsX12_opens_0_ok (0, (.aload_n 0, 1)) (List.mem_of_getElem? (i := 0) rfl))
theorem dX12_opens_1 : decode cX12_opens 1 = .ok (.getfield 131, 3) := of_decide_eq_true (List.all_eq_true.mp dsX12_opens_0_ok (1, (.getfield 131, 3)) (List.mem_of_getElem? (i := 1) rfl))
theorem dX12_opens_4 : decode cX12_opens 4 = .ok (.bipush 7, 2) := of_decide_eq_true (List.all_eq_true.mp dsX12_opens_0_ok (4, (.bipush 7, 2)) (List.mem_of_getElem? (i := 2) rfl))
theorem dX12_opens_6 : decode cX12_opens 6 = .ok (.if_icmp .ne 12, 3) := of_decide_eq_true (List.all_eq_true.mp dsX12_opens_0_ok (6, (.if_icmp .ne 12, 3)) (List.mem_of_getElem? (i := 3) rfl))
theorem dX12_opens_9 : decode cX12_opens 9 = .ok (.aload_n 0, 1) := of_decide_eq_true (List.all_eq_true.mp dsX12_opens_0_ok (9, (.aload_n 0, 1)) (List.mem_of_getElem? (i := 4) rfl))
theorem dX12_opens_10 : decode cX12_opens 10 = .ok (.iconst 5, 1) := of_decide_eq_true (List.all_eq_true.mp dsX12_opens_0_ok (10, (.iconst 5, 1)) (List.mem_of_getElem? (i := 5) rfl))
theorem dX12_opens_11 : decode cX12_opens 11 = .ok (.aload_n 0, 1) := of_decide_eq_true (List.all_eq_true.mp dsX12_opens_0_ok (11, (.aload_n 0, 1)) (List.mem_of_getElem? (i := 6) rfl))
theorem dX12_opens_12 : decode cX12_opens 12 = .ok (.getfield 23, 3) := of_decide_eq_true (List.all_eq_true.mp dsX12_opens_0_ok (12, (.getfield 23, 3)) (List.mem_of_getElem? (i := 7) rfl))
theorem dX12_opens_15 : decode cX12_opens 15 = .ok (.invokevirtual 233, 3) := of_decide_eq_true (List.all_eq_true.mp dsX12_opens_0_ok (15, (.invokevirtual 233, 3)) (List.mem_of_getElem? (i := 8) rfl))
theorem dX12_opens_18 : decode cX12_opens 18 = .ok (.aload_n 0, 1) := of_decide_eq_true (List.all_eq_true.mp dsX12_opens_0_ok (18, (.aload_n 0, 1)) (List.mem_of_getElem? (i := 9) rfl))
theorem dX12_opens_19 : decode cX12_opens 19 = .ok (.getfield 36, 3) := of_decide_eq_true (List.all_eq_true.mp dsX12_opens_0_ok (19, (.getfield 36, 3)) (List.mem_of_getElem? (i := 10) rfl))
theorem dX12_opens_22 : decode cX12_opens 22 = .ok (.ifCond .le 4, 3) := of_decide_eq_true (List.all_eq_true.mp dsX12_opens_0_ok (22, (.ifCond .le 4, 3)) (List.mem_of_getElem? (i := 11) rfl))
theorem dX12_opens_25 : decode cX12_opens 25 = .ok (.return_, 1) := of_decide_eq_true (List.all_eq_true.mp dsX12_opens_0_ok (25, (.return_, 1)) (List.mem_of_getElem? (i := 12) rfl))
theorem dX12_opens_26 : decode cX12_opens 26 = .ok (.aload_n 0, 1) := of_decide_eq_true (List.all_eq_true.mp dsX12_opens_0_ok (26, (.aload_n 0, 1)) (List.mem_of_getElem? (i := 13) rfl))
theorem dX12_opens_27 : decode cX12_opens 27 = .ok (.dup, 1) := of_decide_eq_true (List.all_eq_true.mp dsX12_opens_0_ok (27, (.dup, 1)) (List.mem_of_getElem? (i := 14) rfl))
theorem dX12_opens_28 : decode cX12_opens 28 = .ok (.getfield 131, 3) := of_decide_eq_true (List.all_eq_true.mp dsX12_opens_0_ok (28, (.getfield 131, 3)) (List.mem_of_getElem? (i := 15) rfl))
theorem dX12_opens_31 : decode cX12_opens 31 = .ok (.iconst 1, 1) := of_decide_eq_true (List.all_eq_true.mp dsX12_opens_0_ok (31, (.iconst 1, 1)) (List.mem_of_getElem? (i := 16) rfl))
theorem dX12_opens_32 : decode cX12_opens 32 = .ok (.iadd, 1) := of_decide_eq_true (List.all_eq_true.mp dsX12_opens_0_ok (32, (.iadd, 1)) (List.mem_of_getElem? (i := 17) rfl))
theorem dX12_opens_33 : decode cX12_opens 33 = .ok (.putfield 131, 3) := of_decide_eq_true (List.all_eq_true.mp dsX12_opens_0_ok (33, (.putfield 131, 3)) (List.mem_of_getElem? (i := 18) rfl))
theorem dX12_opens_36 : decode cX12_opens 36 = .ok (.aload_n 0, 1) := of_decide_eq_true (List.all_eq_true.mp dsX12_opens_0_ok (36, (.aload_n 0, 1)) (List.mem_of_getElem? (i := 19) rfl))
theorem dX12_opens_37 : decode cX12_opens 37 = .ok (.invokevirtual 250, 3) := of_decide_eq_true (List.all_eq_true.mp dsX12_opens_0_ok (37, (.invokevirtual 250, 3)) (List.mem_of_getElem? (i := 20) rfl))
theorem dX12_opens_40 : decode cX12_opens 40 = .ok (.aload_n 0, 1) := of_decide_eq_true (List.all_eq_true.mp dsX12_opens_0_ok (40, (.aload_n 0, 1)) (List.mem_of_getElem? (i := 21) rfl))
theorem dX12_opens_41 : decode cX12_opens 41 = .ok (.iload_n 1, 1) := of_decide_eq_true (List.all_eq_true.mp dsX12_opens_0_ok (41, (.iload_n 1, 1)) (List.mem_of_getElem? (i := 22) rfl))
theorem dX12_opens_42 : decode cX12_opens 42 = .ok (.invokevirtual 311, 3) := of_decide_eq_true (List.all_eq_true.mp dsX12_opens_0_ok (42, (.invokevirtual 311, 3)) (List.mem_of_getElem? (i := 23) rfl))
theorem dX12_opens_45 : decode cX12_opens 45 = .ok (.return_, 1) := of_decide_eq_true (List.all_eq_true.mp dsX12_opens_0_ok (45, (.return_, 1)) (List.mem_of_getElem? (i := 24) rfl))
def fX12_opens_b18 (N : Nat) (mm_tapeF : Nat → Int32)   : ((Nat → Int32) × (Nat → Int64) × (Nat → Int32) × (Nat → Int32) × (Nat → Int32) × (Nat → Int32) × Int32) → Option ((Nat → Int32) × (Nat → Int64) × (Nat → Int32) × (Nat → Int32) × (Nat → Int32) × (Nat → Int32)) :=
  fun (mmI_18, mmJ_18, mm_frameF_18, mm_phaseF_18, mm_beginsF_18, mm_baseF_18, x1_18) => (if (mmI_18 8) ≤ 0 then (xq_bd (fX12_ahead N ((va_up mmI_18 39 ((mmI_18 39) + 1))) mmJ_18 mm_tapeF) fun (r_1_0, r_1_1) => (xq_bd (fX12_pushes N r_1_0 mm_frameF_18 mm_phaseF_18 mm_beginsF_18 mm_baseF_18 x1_18) fun (r_3_0, r_3_1, r_3_2, r_3_3, r_3_4) => some ((r_3_0, r_1_1, r_3_1, r_3_2, r_3_3, r_3_4)))) else some ((mmI_18, mmJ_18, mm_frameF_18, mm_phaseF_18, mm_beginsF_18, mm_baseF_18)))
def fX12_opens (N : Nat) (mmI : Nat → Int32) (mmJ : Nat → Int64) (mm_tapeF : Nat → Int32) (mm_frameF : Nat → Int32) (mm_phaseF : Nat → Int32) (mm_beginsF : Nat → Int32) (mm_baseF : Nat → Int32)  (p1 : Int32) : Option ((Nat → Int32) × (Nat → Int64) × (Nat → Int32) × (Nat → Int32) × (Nat → Int32) × (Nat → Int32)) :=
  (if (mmI 39) = 7 then (xq_bd (fX12_blame N mmI 5 (mmI 4)) fun r_1 => fX12_opens_b18 N mm_tapeF (r_1, mmJ, mm_frameF, mm_phaseF, mm_beginsF, mm_baseF, p1)) else fX12_opens_b18 N mm_tapeF (mmI, mmJ, mm_frameF, mm_phaseF, mm_beginsF, mm_baseF, p1))
set_option maxHeartbeats 4000000 in
set_option maxRecDepth 100000 in
theorem kX12_opens (l : Launch) (dC : Nat → ClassId) (dI : Nat → Nat → Nat) (cI cB cJ cZ cM : ClassId) (z : Nat) (ad : Nat → Nat) (N : Nat) (a_p0 : Nat) (mmI : Nat → Int32) (mmJ : Nat → Int64) (mmR : Nat → Nat) (mm_tapeF : Nat → Int32) (mm_frameF : Nat → Int32) (mm_phaseF : Nat → Int32) (mm_beginsF : Nat → Int32) (mm_baseF : Nat → Int32) (p1 : Int32) {r0 : Nat → Int32} {r1 : Nat → Int64} {r2 : Nat → Int32} {r3 : Nat → Int32} {r4 : Nat → Int32} {r5 : Nat → Int32} (hf : fX12_opens N mmI mmJ mm_tapeF mm_frameF mm_phaseF mm_beginsF mm_baseF p1 = some (r0, r1, r2, r3, r4, r5)) : xq_Ct l yX12_opens wsX12_opens { frames := 2, cells := 0, slots := 0, locals := 45 } (dC, dI) vwCl (xq_tys cI cB cJ cZ cM) z ad [.ref a_p0, .int p1] [(a_p0, .inr (12, oX12 mmI mmJ mmR)), ((mmR 0), .inl (cI, 1800, .inl mm_tapeF)), ((mmR 33), .inl (cI, 20, .inl mm_frameF)), ((mmR 34), .inl (cI, 20, .inl mm_phaseF)), ((mmR 35), .inl (cZ, 20, .inl mm_beginsF)), ((mmR 37), .inl (cI, 20, .inl mm_baseF))] [(a_p0, .inr (12, oX12 r0 r1 mmR)), ((mmR 0), .inl (cI, 1800, .inl mm_tapeF)), ((mmR 33), .inl (cI, 20, .inl r2)), ((mmR 34), .inl (cI, 20, .inl r3)), ((mmR 35), .inl (cZ, 20, .inl r4)), ((mmR 37), .inl (cI, 20, .inl r5))] none := by
  intro sz
  refine Met.ofW (cc := cX12_opens) (maxL := 2) (ret := none) (by decide) rfl ?_
  intro p e s m args below meth c s₁ B hml hv
  obtain ⟨rfl, hsz, hP, hK, hD0, hE, hz⟩ := hv
  have hx := B.exec
  have hb := B.bytes
  have hr := B.returns
  have hts := atoms_spec (ws := wsX12_opens) B.pre
  have hown : s.vm.findClass RX12 = some m.cls := findClass_of_methodNamed B.named
  have hlocks := B.notSynchronized
  subst hsz
  have hD := hD0.self (sz := s.heap.size)
  have hN := xq_Env.of hE hz hD0
  generalize hAe : va_A [(a_p0, .inr (12, oX12 mmI mmJ mmR)), ((mmR 0), .inl (cI, 1800, .inl mm_tapeF)), ((mmR 33), .inl (cI, 20, .inl mm_frameF)), ((mmR 34), .inl (cI, 20, .inl mm_phaseF)), ((mmR 35), .inl (cZ, 20, .inl mm_beginsF)), ((mmR 37), .inl (cI, 20, .inl mm_baseF))] s.heap.size = A at hD hN ⊢
  have hA : ∀ q : Nat, s.heap.size ≤ q → A q := fun q h => by rw [← hAe]; exact Or.inr h
  clear hAe hD0
  have hS : va_S A s.heap s.heap [] := va_S.rf
  have hl := lv_entry ([.ref a_p0, .int p1]) (n := 2) (Nat.le_of_ble_eq_true rfl)
  rw [lg_entry_eq]
  generalize (lg_sl ([.ref a_p0, .int p1]) ++ List.replicate (2 - (lg_sl ([.ref a_p0, .int p1])).length) Slot.unset).toArray = ls at hl ⊢
  have hl : lv_has ls 2 [(0, .ref a_p0), (1, .int p1)] := hl
  have hw0 := hts (.fieldLink RX12 131 "DistantVoiceModel" "open" "I") (by decide +kernel)
  have hinX12 : ∀ w ∈ wsX120, w ∈ wsX12_opens := fun w h => List.mem_cons_of_mem _ (List.mem_append_right _ h)
  have hw2 := hts (.fieldLink RX12 23 "DistantVoiceModel" "signAt" "I") (by decide +kernel)
  have hw3 := hts (.fieldLink RX12 36 "DistantVoiceModel" "faultKind" "I") (by decide +kernel)
  have b18 : ∀ (mmI_18 : Nat → Int32) (mmJ_18 : Nat → Int64) (mm_frameF_18 : Nat → Int32) (mm_phaseF_18 : Nat → Int32) (mm_beginsF_18 : Nat → Int32) (mm_baseF_18 : Nat → Int32) (x1_18 : Int32) (ls : Array Slot) (H : Heap) (locs : List Loc), fX12_opens_b18 N mm_tapeF (mmI_18, mmJ_18, mm_frameF_18, mm_phaseF_18, mm_beginsF_18, mm_baseF_18, x1_18) = some (r0, r1, r2, r3, r4, r5) → va_P (dC, dI) vwCl [(a_p0, .inr (12, oX12 mmI_18 mmJ_18 mmR)), ((mmR 0), .inl (cI, 1800, .inl mm_tapeF)), ((mmR 33), .inl (cI, 20, .inl mm_frameF_18)), ((mmR 34), .inl (cI, 20, .inl mm_phaseF_18)), ((mmR 35), .inl (cZ, 20, .inl mm_beginsF_18)), ((mmR 37), .inl (cI, 20, .inl mm_baseF_18))] H → va_D A [(a_p0, .inr (12, oX12 mmI_18 mmJ_18 mmR)), ((mmR 0), .inl (cI, 1800, .inl mm_tapeF)), ((mmR 33), .inl (cI, 20, .inl mm_frameF_18)), ((mmR 34), .inl (cI, 20, .inl mm_phaseF_18)), ((mmR 35), .inl (cZ, 20, .inl mm_beginsF_18)), ((mmR 37), .inl (cI, 20, .inl mm_baseF_18))] → va_S A s.heap H locs → lv_has ls 2 [(0, .ref a_p0), (1, .int x1_18)] → W p l e (headSpec wsX12_opens { frames := 2, cells := 0, slots := 0, locals := 45 }).room s m [.ref a_p0, .int p1].toArray below meth c H locs 0 0 (MQ below (xq_Q (dC, dI) vwCl (xq_tys cI cB cJ cZ cM) A [(a_p0, .inr (12, oX12 r0 r1 mmR)), ((mmR 0), .inl (cI, 1800, .inl mm_tapeF)), ((mmR 33), .inl (cI, 20, .inl r2)), ((mmR 34), .inl (cI, 20, .inl r3)), ((mmR 35), .inl (cZ, 20, .inl r4)), ((mmR 37), .inl (cI, 20, .inl r5))] none) [.ref a_p0, .int p1].toArray s 0 0 A) (F0 m 18 ls []) := by
    intro mmI_18 mmJ_18 mm_frameF_18 mm_phaseF_18 mm_beginsF_18 mm_baseF_18 x1_18 ls H locs hf hP hD hS hl
    unfold fX12_opens_b18 at hf
    refine lv_aload_n hx hb dX12_opens_18 rfl (lv_at hl 0 rfl) ?_
    refine va_get (D := (dC, dI)) (ci := 12) (v := .int (mmI_18 8)) (C := RX12) (T := TX12) (N := 70) hx hb hts hinX12 hown hK hP 0 rfl rfl 8 (by decide) hw3 (fun _ h9 => h9) rfl dX12_opens_19 ?_
    refine lv_if_le (tgt := 26) hx hb dX12_opens_22 (by decide) (fun c_ => ?_) (fun c_ => ?_)
    · have hf := xq_pos hf c_
      refine lv_aload_n hx hb dX12_opens_26 rfl (lv_at hl 0 rfl) ?_
      refine lv_dup hx hb dX12_opens_27 rfl ?_
      refine va_get (D := (dC, dI)) (ci := 12) (v := .int (mmI_18 39)) (C := RX12) (T := TX12) (N := 70) hx hb hts hinX12 hown hK hP 0 rfl rfl 39 (by decide) hw0 (fun _ h9 => h9) rfl dX12_opens_28 ?_
      refine lv_iconst (v := 1) hx hb dX12_opens_31 (by decide) ?_
      refine lv_iadd hx hb dX12_opens_32 ?_
      refine va_put (D := (dC, dI)) (ci := 12) (v := .int ((mmI_18 39) + 1)) (ty := .int) (C := RX12) (T := TX12) (N := 70) hx hb hts hinX12 tyX12 tyX12_ok nmX12 hown hK hP hD hS 0 rfl rfl 39 (by decide) hw0 (fun _ h9 => h9) rfl (by decide +kernel) rfl rfl (Nat.le_of_ble_eq_true rfl) dX12_opens_33 (fun H locs hP hD hS => ?_)
      have hP : va_P (dC, dI) vwCl [(a_p0, .inr (12, oX12 (va_up mmI_18 39 ((mmI_18 39) + 1)) mmJ_18 mmR)), ((mmR 0), .inl (cI, 1800, .inl mm_tapeF)), ((mmR 33), .inl (cI, 20, .inl mm_frameF_18)), ((mmR 34), .inl (cI, 20, .inl mm_phaseF_18)), ((mmR 35), .inl (cZ, 20, .inl mm_beginsF_18)), ((mmR 37), .inl (cI, 20, .inl mm_baseF_18))] H := hP
      have hD : va_D A [(a_p0, .inr (12, oX12 (va_up mmI_18 39 ((mmI_18 39) + 1)) mmJ_18 mmR)), ((mmR 0), .inl (cI, 1800, .inl mm_tapeF)), ((mmR 33), .inl (cI, 20, .inl mm_frameF_18)), ((mmR 34), .inl (cI, 20, .inl mm_phaseF_18)), ((mmR 35), .inl (cZ, 20, .inl mm_beginsF_18)), ((mmR 37), .inl (cI, 20, .inl mm_baseF_18))] := hD
      refine lv_aload_n hx hb dX12_opens_36 rfl (lv_at hl 0 rfl) ?_
      obtain ⟨⟨r_1_0, r_1_1⟩, h_2, hf⟩ := xq_bd_some hf
      refine xq_callV (As := []) (rest := []) (ci := 12) (q0 := 0) ⟨hx, hb, hml, hown, hts⟩ (kX12_ahead l dC dI cI cB cJ cZ cM z ad N a_p0 ((va_up mmI_18 39 ((mmI_18 39) + 1))) mmJ_18 mmR mm_tapeF h_2) (cwV 0 hts gX12_opens_X12_ahead rfl rfl rfl (by decide +kernel) ⟨Nat.le_of_ble_eq_true rfl, Nat.le_of_ble_eq_true rfl⟩) hN hK hP hD hS hA [0, 1] (by decide) rfl rfl rfl rfl rfl rfl hl.1 rfl (Nat.le_of_ble_eq_true rfl) dX12_opens_37 ⟨Nat.zero_le _, Nat.zero_le _⟩ (fun H locs hP hD hS => ?_)
      have hP : va_P (dC, dI) vwCl [(a_p0, .inr (12, oX12 r_1_0 r_1_1 mmR)), ((mmR 0), .inl (cI, 1800, .inl mm_tapeF)), ((mmR 33), .inl (cI, 20, .inl mm_frameF_18)), ((mmR 34), .inl (cI, 20, .inl mm_phaseF_18)), ((mmR 35), .inl (cZ, 20, .inl mm_beginsF_18)), ((mmR 37), .inl (cI, 20, .inl mm_baseF_18))] H := hP
      have hD : va_D A [(a_p0, .inr (12, oX12 r_1_0 r_1_1 mmR)), ((mmR 0), .inl (cI, 1800, .inl mm_tapeF)), ((mmR 33), .inl (cI, 20, .inl mm_frameF_18)), ((mmR 34), .inl (cI, 20, .inl mm_phaseF_18)), ((mmR 35), .inl (cZ, 20, .inl mm_beginsF_18)), ((mmR 37), .inl (cI, 20, .inl mm_baseF_18))] := hD
      refine W.eq (g2 := F0 m 40 ls []) rfl ?_
      refine lv_aload_n hx hb dX12_opens_40 rfl (lv_at hl 0 rfl) ?_
      refine lv_iload_n hx hb dX12_opens_41 rfl (lv_at hl 1 rfl) ?_
      obtain ⟨⟨r_3_0, r_3_1, r_3_2, r_3_3, r_3_4⟩, h_4, hf⟩ := xq_bd_some hf
      refine xq_callV (As := [.int x1_18]) (rest := []) (ci := 12) (q0 := 0) ⟨hx, hb, hml, hown, hts⟩ (kX12_pushes l dC dI cI cB cJ cZ cM z ad N a_p0 r_1_0 r_1_1 mmR mm_frameF_18 mm_phaseF_18 mm_beginsF_18 mm_baseF_18 x1_18 h_4) (cwV 1 hts gX12_opens_X12_pushes rfl rfl rfl (by decide +kernel) ⟨Nat.le_of_ble_eq_true rfl, Nat.le_of_ble_eq_true rfl⟩) hN hK hP hD hS hA [0, 2, 3, 4, 5] (by decide) rfl rfl rfl rfl rfl rfl hl.1 rfl (Nat.le_of_ble_eq_true rfl) dX12_opens_42 ⟨Nat.zero_le _, Nat.zero_le _⟩ (fun H locs hP hD hS => ?_)
      have hP : va_P (dC, dI) vwCl [(a_p0, .inr (12, oX12 r_3_0 r_1_1 mmR)), ((mmR 0), .inl (cI, 1800, .inl mm_tapeF)), ((mmR 33), .inl (cI, 20, .inl r_3_1)), ((mmR 34), .inl (cI, 20, .inl r_3_2)), ((mmR 35), .inl (cZ, 20, .inl r_3_3)), ((mmR 37), .inl (cI, 20, .inl r_3_4))] H := hP
      have hD : va_D A [(a_p0, .inr (12, oX12 r_3_0 r_1_1 mmR)), ((mmR 0), .inl (cI, 1800, .inl mm_tapeF)), ((mmR 33), .inl (cI, 20, .inl r_3_1)), ((mmR 34), .inl (cI, 20, .inl r_3_2)), ((mmR 35), .inl (cZ, 20, .inl r_3_3)), ((mmR 37), .inl (cI, 20, .inl r_3_4))] := hD
      refine W.eq (g2 := F0 m 45 ls []) rfl ?_
      have hP9 := hP
      have hD9 := hD
      have hS9 := hS
      cases hf
      exact xq_vret hx hb hr hlocks hK hP9 hD9 hS9 dX12_opens_45
    · have hf := xq_neg hf c_
      have hP9 := hP
      have hD9 := hD
      have hS9 := hS
      cases hf
      exact xq_vret hx hb hr hlocks hK hP9 hD9 hS9 dX12_opens_25
  unfold fX12_opens at hf
  refine lv_aload_n hx hb dX12_opens_0 rfl (lv_at hl 0 rfl) ?_
  refine va_get (D := (dC, dI)) (ci := 12) (v := .int (mmI 39)) (C := RX12) (T := TX12) (N := 70) hx hb hts hinX12 hown hK hP 0 rfl rfl 39 (by decide) hw0 (fun _ h9 => h9) rfl dX12_opens_1 ?_
  refine lv_bipush (v := 7) hx hb dX12_opens_4 (by decide) ?_
  refine lv_icmp_ne (tgt := 18) hx hb dX12_opens_6 (by decide) (fun c_ => ?_) (fun c_ => ?_)
  · have hf := xq_neg hf c_
    exact b18 mmI mmJ mm_frameF mm_phaseF mm_beginsF mm_baseF p1 _ _ _ hf hP hD hS (lv_sub hl [0, 1] rfl)
  · have hf := xq_pos hf c_
    refine lv_aload_n hx hb dX12_opens_9 rfl (lv_at hl 0 rfl) ?_
    refine lv_iconst (v := 5) hx hb dX12_opens_10 (by decide) ?_
    refine lv_aload_n hx hb dX12_opens_11 rfl (lv_at hl 0 rfl) ?_
    refine va_get (D := (dC, dI)) (ci := 12) (v := .int (mmI 4)) (C := RX12) (T := TX12) (N := 70) hx hb hts hinX12 hown hK hP 0 rfl rfl 4 (by decide) hw2 (fun _ h9 => h9) rfl dX12_opens_12 ?_
    obtain ⟨r_1, h_2, hf⟩ := xq_bd_some hf
    refine xq_callV (As := [.int 5, .int (mmI 4)]) (rest := []) (ci := 12) (q0 := 0) ⟨hx, hb, hml, hown, hts⟩ (kX12_blame l dC dI cI cB cJ cZ cM z ad N a_p0 mmI mmJ mmR 5 (mmI 4) h_2) (cwV 2 hts gX12_opens_X12_blame rfl rfl rfl (by decide +kernel) ⟨Nat.le_of_ble_eq_true rfl, Nat.le_of_ble_eq_true rfl⟩) hN hK hP hD hS hA [0] (by decide) rfl rfl rfl rfl rfl rfl hl.1 rfl (Nat.le_of_ble_eq_true rfl) dX12_opens_15 ⟨Nat.zero_le _, Nat.zero_le _⟩ (fun H locs hP hD hS => ?_)
    have hP : va_P (dC, dI) vwCl [(a_p0, .inr (12, oX12 r_1 mmJ mmR)), ((mmR 0), .inl (cI, 1800, .inl mm_tapeF)), ((mmR 33), .inl (cI, 20, .inl mm_frameF)), ((mmR 34), .inl (cI, 20, .inl mm_phaseF)), ((mmR 35), .inl (cZ, 20, .inl mm_beginsF)), ((mmR 37), .inl (cI, 20, .inl mm_baseF))] H := hP
    have hD : va_D A [(a_p0, .inr (12, oX12 r_1 mmJ mmR)), ((mmR 0), .inl (cI, 1800, .inl mm_tapeF)), ((mmR 33), .inl (cI, 20, .inl mm_frameF)), ((mmR 34), .inl (cI, 20, .inl mm_phaseF)), ((mmR 35), .inl (cZ, 20, .inl mm_beginsF)), ((mmR 37), .inl (cI, 20, .inl mm_baseF))] := hD
    refine W.eq (g2 := F0 m 18 ls []) rfl ?_
    exact b18 r_1 mmJ mm_frameF mm_phaseF mm_beginsF mm_baseF p1 _ _ _ hf hP hD hS (lv_sub hl [0, 1] rfl)
def dsX12_isTest_0 : List (Nat × Instr × Nat) := [(0, (.iload_n 0, 1)), (1, (.iconst 1, 1)), (2, (.if_icmp .eq 14, 3)), (5, (.iload_n 0, 1)), (6, (.iconst 5, 1)), (7, (.if_icmp .eq 9, 3)), (10, (.iload_n 0, 1)), (11, (.bipush 6, 2)), (13, (.if_icmp .ne 7, 3)), (16, (.iconst 1, 1)), (17, (.goto 4, 3)), (20, (.iconst 0, 1)), (21, (.ireturn, 1))]
theorem dsX12_isTest_0_ok : (dsX12_isTest_0.all fun q => decide (decode cX12_isTest q.1 = .ok q.2)) = true := by decide +kernel
theorem dX12_isTest_0 : decode cX12_isTest 0 = .ok (.iload_n 0, 1) := of_decide_eq_true (List.all_eq_true.mp dsX12_isTest_0_ok (0, (.iload_n 0, 1)) (List.mem_of_getElem? (i := 0) rfl))
theorem dX12_isTest_1 : decode cX12_isTest 1 = .ok (.iconst 1, 1) := of_decide_eq_true (List.all_eq_true.mp dsX12_isTest_0_ok (1, (.iconst 1, 1)) (List.mem_of_getElem? (i := 1) rfl))
theorem dX12_isTest_2 : decode cX12_isTest 2 = .ok (.if_icmp .eq 14, 3) := of_decide_eq_true (List.all_eq_true.mp dsX12_isTest_0_ok (2, (.if_icmp .eq 14, 3)) (List.mem_of_getElem? (i := 2) rfl))
theorem dX12_isTest_5 : decode cX12_isTest 5 = .ok (.iload_n 0, 1) := of_decide_eq_true (List.all_eq_true.mp dsX12_isTest_0_ok (5, (.iload_n 0, 1)) (List.mem_of_getElem? (i := 3) rfl))
theorem dX12_isTest_6 : decode cX12_isTest 6 = .ok (.iconst 5, 1) := of_decide_eq_true (List.all_eq_true.mp dsX12_isTest_0_ok (6, (.iconst 5, 1)) (List.mem_of_getElem? (i := 4) rfl))
theorem dX12_isTest_7 : decode cX12_isTest 7 = .ok (.if_icmp .eq 9, 3) := of_decide_eq_true (List.all_eq_true.mp dsX12_isTest_0_ok (7, (.if_icmp .eq 9, 3)) (List.mem_of_getElem? (i := 5) rfl))
theorem dX12_isTest_10 : decode cX12_isTest 10 = .ok (.iload_n 0, 1) := of_decide_eq_true (List.all_eq_true.mp dsX12_isTest_0_ok (10, (.iload_n 0, 1)) (List.mem_of_getElem? (i := 6) rfl))
theorem dX12_isTest_11 : decode cX12_isTest 11 = .ok (.bipush 6, 2) := of_decide_eq_true (List.all_eq_true.mp dsX12_isTest_0_ok (11, (.bipush 6, 2)) (List.mem_of_getElem? (i := 7) rfl))
theorem dX12_isTest_13 : decode cX12_isTest 13 = .ok (.if_icmp .ne 7, 3) := of_decide_eq_true (List.all_eq_true.mp dsX12_isTest_0_ok (13, (.if_icmp .ne 7, 3)) (List.mem_of_getElem? (i := 8) rfl))
theorem dX12_isTest_16 : decode cX12_isTest 16 = .ok (.iconst 1, 1) := of_decide_eq_true (List.all_eq_true.mp dsX12_isTest_0_ok (16, (.iconst 1, 1)) (List.mem_of_getElem? (i := 9) rfl))
theorem dX12_isTest_17 : decode cX12_isTest 17 = .ok (.goto 4, 3) := of_decide_eq_true (List.all_eq_true.mp dsX12_isTest_0_ok (17, (.goto 4, 3)) (List.mem_of_getElem? (i := 10) rfl))
theorem dX12_isTest_20 : decode cX12_isTest 20 = .ok (.iconst 0, 1) := of_decide_eq_true (List.all_eq_true.mp dsX12_isTest_0_ok (20, (.iconst 0, 1)) (List.mem_of_getElem? (i := 11) rfl))
theorem dX12_isTest_21 : decode cX12_isTest 21 = .ok (.ireturn, 1) := of_decide_eq_true (List.all_eq_true.mp dsX12_isTest_0_ok (21, (.ireturn, 1)) (List.mem_of_getElem? (i := 12) rfl))
def fX12_isTest (N : Nat)   (p0 : Int32) : Option (Int32) :=
  (if p0 = 1 then some 1 else (if p0 = 5 then some 1 else (if p0 = 6 then some 1 else some 0)))
set_option maxHeartbeats 4000000 in
set_option maxRecDepth 100000 in
theorem kX12_isTest (l : Launch) (dC : Nat → ClassId) (dI : Nat → Nat → Nat) (cI cB cJ cZ cM : ClassId) (z : Nat) (ad : Nat → Nat) (N : Nat) (p0 : Int32) {r0 : Int32} (hf : fX12_isTest N p0 = some r0) : xq_Ct l yX12_isTest wsX12_isTest { frames := 0, cells := 0, slots := 0, locals := 0 } (dC, dI) vwCl (xq_tys cI cB cJ cZ cM) z ad [.int p0] [] [] (some (.int r0)) := by
  intro sz
  refine Met.ofW (cc := cX12_isTest) (maxL := 1) (ret := (some .boolean)) (by decide) rfl ?_
  intro p e s m args below meth c s₁ B hml hv
  obtain ⟨rfl, hsz, hP, hK, hD0, hE, hz⟩ := hv
  have hx := B.exec
  have hb := B.bytes
  have hr := B.returns
  have hts := atoms_spec (ws := wsX12_isTest) B.pre
  have hown : s.vm.findClass RX12 = some m.cls := findClass_of_methodNamed B.named
  have hlocks := B.notSynchronized
  subst hsz
  have hD := hD0.self (sz := s.heap.size)
  have hN := xq_Env.of hE hz hD0
  generalize hAe : va_A [] s.heap.size = A at hD hN ⊢
  have hA : ∀ q : Nat, s.heap.size ≤ q → A q := fun q h => by rw [← hAe]; exact Or.inr h
  clear hAe hD0
  have hS : va_S A s.heap s.heap [] := va_S.rf
  have hl := lv_entry ([.int p0]) (n := 1) (Nat.le_of_ble_eq_true rfl)
  rw [lg_entry_eq]
  generalize (lg_sl ([.int p0]) ++ List.replicate (1 - (lg_sl ([.int p0])).length) Slot.unset).toArray = ls at hl ⊢
  have hl : lv_has ls 1 [(0, .int p0)] := hl
  unfold fX12_isTest at hf
  refine lv_iload_n hx hb dX12_isTest_0 rfl (lv_at hl 0 rfl) ?_
  refine lv_iconst (v := 1) hx hb dX12_isTest_1 (by decide) ?_
  refine lv_icmp_eq (tgt := 16) hx hb dX12_isTest_2 (by decide) (fun c_ => ?_) (fun c_ => ?_)
  · have hf := xq_pos hf c_
    refine lv_iconst (v := 1) hx hb dX12_isTest_16 (by decide) ?_
    refine lv_goto (tgt := 21) hx hb dX12_isTest_17 (by decide) ?_
    have hP9 := hP
    have hD9 := hD
    have hS9 := hS
    cases hf
    exact xq_zret hx hb hr (by decide +kernel) hlocks hK hP9 hD9 hS9 dX12_isTest_21
  · have hf := xq_neg hf c_
    refine lv_iload_n hx hb dX12_isTest_5 rfl (lv_at hl 0 rfl) ?_
    refine lv_iconst (v := 5) hx hb dX12_isTest_6 (by decide) ?_
    refine lv_icmp_eq (tgt := 16) hx hb dX12_isTest_7 (by decide) (fun c_ => ?_) (fun c_ => ?_)
    · have hf := xq_pos hf c_
      refine lv_iconst (v := 1) hx hb dX12_isTest_16 (by decide) ?_
      refine lv_goto (tgt := 21) hx hb dX12_isTest_17 (by decide) ?_
      have hP9 := hP
      have hD9 := hD
      have hS9 := hS
      cases hf
      exact xq_zret hx hb hr (by decide +kernel) hlocks hK hP9 hD9 hS9 dX12_isTest_21
    · have hf := xq_neg hf c_
      refine lv_iload_n hx hb dX12_isTest_10 rfl (lv_at hl 0 rfl) ?_
      refine lv_bipush (v := 6) hx hb dX12_isTest_11 (by decide) ?_
      refine lv_icmp_ne (tgt := 20) hx hb dX12_isTest_13 (by decide) (fun c_ => ?_) (fun c_ => ?_)
      · have hf := xq_neg hf c_
        refine lv_iconst (v := 0) hx hb dX12_isTest_20 (by decide) ?_
        have hP9 := hP
        have hD9 := hD
        have hS9 := hS
        cases hf
        exact xq_zret hx hb hr (by decide +kernel) hlocks hK hP9 hD9 hS9 dX12_isTest_21
      · have hf := xq_pos hf c_
        refine lv_iconst (v := 1) hx hb dX12_isTest_16 (by decide) ?_
        refine lv_goto (tgt := 21) hx hb dX12_isTest_17 (by decide) ?_
        have hP9 := hP
        have hD9 := hD
        have hS9 := hS
        cases hf
        exact xq_zret hx hb hr (by decide +kernel) hlocks hK hP9 hD9 hS9 dX12_isTest_21
