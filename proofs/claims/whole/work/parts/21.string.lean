/-! own rows: the two String constants, and the JDK's methods over them -/
def xq_sb (i : Nat) : Nat → Int32 := fun j => (xq_byt.getD i []).getD j 0
def xq_cb (x : Int32) : Option Int32 := if (x.toUInt32 % 65536).toInt32 = x then some x else none
theorem xq_cb_e {x v : Int32} (h : xq_cb x = some v) : x = v := by
  unfold xq_cb at h
  split at h
  · exact Option.some.inj h
  · cases h
theorem xq_cb_n {x v : Int32} (h : xq_cb x = some v) : narrow .char (.int v) = .int v := by
  have e := xq_cb_e h
  subst e
  unfold xq_cb at h
  split at h
  · rename_i q
    have := pk_nc x
    rw [q] at this
    exact this
  · cases h
section XS
variable {p : Program} {l : Launch} {e : Env} {R : Room} {s : State} {m : MethodId} {args : Array Value} {below : List Frame} {meth : Method} {c : Code} {H : Heap} {locs : List Loc} {cells slots : Nat} {Q : State → Prop}
variable {cc : ByteArray} {pc : Nat} {ls : Array Slot} {rest : List Value} {D : va_G} {cl : List vw_C} {A : Nat → Prop} {a : Nat} {tys : List (ClassId × FieldType)} {ws : va_W} {β : Type} {r : β} {z : Nat} {ad : Nat → Nat}
theorem xq_tb {t n : Nat} {f : Nat → Int32} (hx : p.tables.exec = Jvm.exec) (hb : c.code = cc) (hT : va_T .byte t n (fun j => .int (f j)) A s s.heap) (hS : va_S A s.heap H locs) {i : Int32} {k : Int32 → Option β} (hf : xq_bd (xq_ald n f i) k = some r) (hdg : decode cc pc = .ok (.baload, 1))
    (kk : ∀ v : Int32, k v = some r → W p l e R s m args below meth c H locs cells slots Q (F0 m (pc + 1) ls (.int v :: rest))) : W p l e R s m args below meth c H locs cells slots Q (F0 m pc ls (.int i :: .ref t :: rest)) := by
  obtain ⟨v, h1, h2⟩ := xq_bd_some hf
  obtain ⟨hin, rfl⟩ := xq_ald_some h1
  exact va_tb hx hb hT hS hin rfl hdg (kk _ h2)
theorem xq_callVS {y : MethodName} {bytes : ByteArray} {maxL nL n index : Nat} {ret : Option FieldType} {wsy Ts : List Cond} {rm : Room} {own C : String} {b : Nat} {As st0 : List Value} {wc w1 : va_W} {rv : Option Value} (S : CallFix p m c cc nL s args Ts own) (hM : xq_Ct l y wsy rm D cl tys z ad (.ref b :: As) wc w1 rv) (cw : CallW R s args own C index y bytes maxL ret wsy rm 0 0 n)
    (hN : xq_Env z ad A s) (hK : va_K D cl tys s) (hP : va_P D cl ws H) (hD : va_D A ws) (hS : va_S A s.heap H locs) (hA : ∀ q, s.heap.size ≤ q → A q) (isC : List Nat) (hnd : va_nd isC = true) (hC : isC.map (fun i => ws[i]?) = wc.map some) (ha : wc.map (fun q => q.1) = w1.map (fun q => q.1)) (hrec : ∃ cell : Cell, H[b]? = some cell ∧ cell.vm.isStatics = false ∧ s.vm.findClass C = some cell.cls)
    (hn : As.length = n) (hsize : ls.size = nL) (hst : st0 = As.reverse ++ .ref b :: rest) (hW : (rest.map fun v => v.category).sum ≤ 8) (hdg : decode cc pc = .ok (.invokevirtual index, 3)) (hf : cells ≤ R.cells ∧ slots ≤ R.slots)
    (kk : ∀ (H1 : Heap) (locs1 : List Loc), va_P D cl (xq_bk (isC.zip w1) 0 ws) H1 → va_D A (xq_bk (isC.zip w1) 0 ws) → va_S A s.heap H1 locs1 → W p l e R s m args below meth c H1 locs1 cells slots Q (F0 m (pc + 3) ls (rv.toList ++ rest))) : W p l e R s m args below meth c H locs cells slots Q (F0 m pc ls st0) := by
  obtain ⟨hbl, hpre⟩ := xq_pre (av := .ref b :: As) hN hK hP hD hS isC hnd hC
  exact xq_go (va_runV (As := As) (rest := rest) (g := F0 m pc ls st0) S (hM H.size) cw ⟨hbl, hrec, hpre⟩ rfl hn hsize hst (lv_room hW) hdg hf) hP hD hS hA isC hC ha kk
end XS
def dsJ3_checkIndex_8e157_0 : List (Nat × Instr × Nat) := [(0, (.iload_n 0, 1)), (1, (.ifCond .lt 8, 3)), (4, (.iload_n 0, 1)), (5, (.iload_n 1, 1)), (6, (.if_icmp .lt 10, 3)), (9, (.aload_n 2, 1)), (10, (.iload_n 0, 1)), (11, (.iload_n 1, 1)), (12, (.invokestatic 95, 3)), (15, (.athrow, 1)), (16, (.iload_n 0, 1)), (17, (.ireturn, 1))]
theorem dsJ3_checkIndex_8e157_0_ok : (dsJ3_checkIndex_8e157_0.all fun q => decide (decode cJ3_checkIndex_8e157 q.1 = .ok q.2)) = true := by decide +kernel
theorem dJ3_checkIndex_8e157_0 : decode cJ3_checkIndex_8e157 0 = .ok (.iload_n 0, 1) := of_decide_eq_true (List.all_eq_true.mp dsJ3_checkIndex_8e157_0_ok (0, (.iload_n 0, 1)) (List.mem_of_getElem? (i := 0) rfl))
theorem dJ3_checkIndex_8e157_1 : decode cJ3_checkIndex_8e157 1 = .ok (.ifCond .lt 8, 3) := of_decide_eq_true (List.all_eq_true.mp dsJ3_checkIndex_8e157_0_ok (1, (.ifCond .lt 8, 3)) (List.mem_of_getElem? (i := 1) rfl))
theorem dJ3_checkIndex_8e157_4 : decode cJ3_checkIndex_8e157 4 = .ok (.iload_n 0, 1) := of_decide_eq_true (List.all_eq_true.mp dsJ3_checkIndex_8e157_0_ok (4, (.iload_n 0, 1)) (List.mem_of_getElem? (i := 2) rfl))
theorem dJ3_checkIndex_8e157_5 : decode cJ3_checkIndex_8e157 5 = .ok (.iload_n 1, 1) := of_decide_eq_true (List.all_eq_true.mp dsJ3_checkIndex_8e157_0_ok (5, (.iload_n 1, 1)) (List.mem_of_getElem? (i := 3) rfl))
theorem dJ3_checkIndex_8e157_6 : decode cJ3_checkIndex_8e157 6 = .ok (.if_icmp .lt 10, 3) := of_decide_eq_true (List.all_eq_true.mp dsJ3_checkIndex_8e157_0_ok (6, (.if_icmp .lt 10, 3)) (List.mem_of_getElem? (i := 4) rfl))
theorem dJ3_checkIndex_8e157_9 : decode cJ3_checkIndex_8e157 9 = .ok (.aload_n 2, 1) := of_decide_eq_true (List.all_eq_true.mp dsJ3_checkIndex_8e157_0_ok (9, (.aload_n 2, 1)) (List.mem_of_getElem? (i := 5) rfl))
theorem dJ3_checkIndex_8e157_10 : decode cJ3_checkIndex_8e157 10 = .ok (.iload_n 0, 1) := of_decide_eq_true (List.all_eq_true.mp dsJ3_checkIndex_8e157_0_ok (10, (.iload_n 0, 1)) (List.mem_of_getElem? (i := 6) rfl))
theorem dJ3_checkIndex_8e157_11 : decode cJ3_checkIndex_8e157 11 = .ok (.iload_n 1, 1) := of_decide_eq_true (List.all_eq_true.mp dsJ3_checkIndex_8e157_0_ok (11, (.iload_n 1, 1)) (List.mem_of_getElem? (i := 7) rfl))
theorem dJ3_checkIndex_8e157_12 : decode cJ3_checkIndex_8e157 12 = .ok (.invokestatic 95, 3) := of_decide_eq_true (List.all_eq_true.mp dsJ3_checkIndex_8e157_0_ok (12, (.invokestatic 95, 3)) (List.mem_of_getElem? (i := 8) rfl))
theorem dJ3_checkIndex_8e157_15 : decode cJ3_checkIndex_8e157 15 = .ok (.athrow, 1) := of_decide_eq_true (List.all_eq_true.mp dsJ3_checkIndex_8e157_0_ok (15, (.athrow, 1)) (List.mem_of_getElem? (i := 9) rfl))
theorem dJ3_checkIndex_8e157_16 : decode cJ3_checkIndex_8e157 16 = .ok (.iload_n 0, 1) := of_decide_eq_true (List.all_eq_true.mp dsJ3_checkIndex_8e157_0_ok (16, (.iload_n 0, 1)) (List.mem_of_getElem? (i := 10) rfl))
theorem dJ3_checkIndex_8e157_17 : decode cJ3_checkIndex_8e157 17 = .ok (.ireturn, 1) := of_decide_eq_true (List.all_eq_true.mp dsJ3_checkIndex_8e157_0_ok (17, (.ireturn, 1)) (List.mem_of_getElem? (i := 11) rfl))
set_option maxRecDepth 20000 in
theorem ggJ0_checkIndex_df160_J3_checkIndex_8e157 : GoodIn wsJ0_checkIndex_df160 wsJ3_checkIndex_8e157 := goodIn_r _ [5] rfl (by decide +kernel)
set_option maxRecDepth 20000 in
theorem gJ0_checkIndex_df160_J3_checkIndex_8e157 : GoodIn wsJ0_checkIndex_df160 (va_wsS RJ0 1059 yJ3_checkIndex_8e157 wsJ3_checkIndex_8e157) := goodIn_app (goodIn_of _ (by decide +kernel)) ggJ0_checkIndex_df160_J3_checkIndex_8e157
def dsJ0_checkIndex_df160_0 : List (Nat × Instr × Nat) := [(0, (.iload_n 0, 1)), (1, (.iload_n 1, 1)), (2, (.getstatic 1053, 3)), (5, (.invokestatic 1059, 3)), (8, (.pop, 1)), (9, (.return_, 1))]
theorem dsJ0_checkIndex_df160_0_ok : (dsJ0_checkIndex_df160_0.all fun q => decide (decode cJ0_checkIndex_df160 q.1 = .ok q.2)) = true := by decide +kernel
theorem dJ0_checkIndex_df160_0 : decode cJ0_checkIndex_df160 0 = .ok (.iload_n 0, 1) := of_decide_eq_true (List.all_eq_true.mp dsJ0_checkIndex_df160_0_ok (0, (.iload_n 0, 1)) (List.mem_of_getElem? (i := 0) rfl))
theorem dJ0_checkIndex_df160_1 : decode cJ0_checkIndex_df160 1 = .ok (.iload_n 1, 1) := of_decide_eq_true (List.all_eq_true.mp dsJ0_checkIndex_df160_0_ok (1, (.iload_n 1, 1)) (List.mem_of_getElem? (i := 1) rfl))
theorem dJ0_checkIndex_df160_2 : decode cJ0_checkIndex_df160 2 = .ok (.getstatic 1053, 3) := of_decide_eq_true (List.all_eq_true.mp dsJ0_checkIndex_df160_0_ok (2, (.getstatic 1053, 3)) (List.mem_of_getElem? (i := 2) rfl))
theorem dJ0_checkIndex_df160_5 : decode cJ0_checkIndex_df160 5 = .ok (.invokestatic 1059, 3) := of_decide_eq_true (List.all_eq_true.mp dsJ0_checkIndex_df160_0_ok (5, (.invokestatic 1059, 3)) (List.mem_of_getElem? (i := 3) rfl))
theorem dJ0_checkIndex_df160_8 : decode cJ0_checkIndex_df160 8 = .ok (.pop, 1) := of_decide_eq_true (List.all_eq_true.mp dsJ0_checkIndex_df160_0_ok (8, (.pop, 1)) (List.mem_of_getElem? (i := 4) rfl))
theorem dJ0_checkIndex_df160_9 : decode cJ0_checkIndex_df160 9 = .ok (.return_, 1) := of_decide_eq_true (List.all_eq_true.mp dsJ0_checkIndex_df160_0_ok (9, (.return_, 1)) (List.mem_of_getElem? (i := 5) rfl))
def fJ3_checkIndex_8e157 (N : Nat) (p0 p1 : Int32) : Option Int32 := if p0 < 0 then none else if p0 < p1 then some p0 else none
set_option maxHeartbeats 4000000 in
theorem kJ3_checkIndex_8e157 (l : Launch) (dC : Nat → ClassId) (dI : Nat → Nat → Nat) (cI cB cJ cZ cM : ClassId) (z : Nat) (ad : Nat → Nat) (N : Nat) (p0 p1 : Int32) (vF : Value) (hc1 : vF.category = 1) {r0 : Int32} (hf : fJ3_checkIndex_8e157 N p0 p1 = some r0) : xq_Ct l yJ3_checkIndex_8e157 wsJ3_checkIndex_8e157 { frames := 0, cells := 0, slots := 0, locals := 0 } (dC, dI) vwCl (xq_tys cI cB cJ cZ cM) z ad [.int p0, .int p1, vF] [] [] (some (.int r0)) := by
  intro sz
  refine xq_ofW (cc := cJ3_checkIndex_8e157) (maxL := 3) (ret := (some .int)) (by decide +kernel) rfl ?_
  intro p e s m args below meth c s₁ B hml hv
  obtain ⟨rfl, hsz, hP, hK, hD0, hE, hz⟩ := hv
  have hx := B.exec
  have hb := B.bytes
  have hr := B.returns
  have hlocks := B.notSynchronized
  subst hsz
  have hD := hD0.self (sz := s.heap.size)
  generalize hAe : va_A [] s.heap.size = A at hD ⊢
  have hS : va_S A s.heap s.heap [] := va_S.rf
  have hsl : lg_sl [.int p0, .int p1, vF] = [.val (.int p0), .val (.int p1), .val vF] := by
    cases vF <;> first | rfl | exact absurd (show (2 : Nat) = 1 from hc1) (by decide)
  have hl := lv_entry ([.int p0, .int p1, vF]) (n := 3) (by rw [hsl]; exact Nat.le_refl 3)
  rw [lg_entry_eq]
  generalize (lg_sl ([.int p0, .int p1, vF]) ++ List.replicate (3 - (lg_sl ([.int p0, .int p1, vF])).length) Slot.unset).toArray = ls at hl ⊢
  have hl : lv_has ls 3 (lv_args 0 [.int p0, .int p1, vF]) := hl
  unfold fJ3_checkIndex_8e157 at hf
  refine lv_iload_n hx hb dJ3_checkIndex_8e157_0 rfl (lv_at hl 0 rfl) ?_
  refine lv_if_lt (tgt := 9) hx hb dJ3_checkIndex_8e157_1 (by decide) (fun c_ => ?_) (fun c_ => ?_)
  · have hf := xq_pos hf c_
    cases hf
  · have hf := xq_neg hf c_
    refine lv_iload_n hx hb dJ3_checkIndex_8e157_4 rfl (lv_at hl 0 rfl) ?_
    refine lv_iload_n hx hb dJ3_checkIndex_8e157_5 rfl (lv_at hl 1 rfl) ?_
    refine lv_icmp_lt (tgt := 16) hx hb dJ3_checkIndex_8e157_6 (by decide) (fun c_ => ?_) (fun c_ => ?_)
    · have hf := xq_pos hf c_
      refine lv_iload_n hx hb dJ3_checkIndex_8e157_16 rfl (lv_at hl 0 rfl) ?_
      cases hf
      exact xq_iret hx hb hr hlocks hK hP hD hS dJ3_checkIndex_8e157_17
    · have hf := xq_neg hf c_
      cases hf
def fJ0_checkIndex_df160 (N : Nat) (p0 p1 : Int32) : Option Unit := if p0 < 0 then none else if p0 < p1 then some () else none
set_option maxHeartbeats 4000000 in
theorem kJ0_checkIndex_df160 (l : Launch) (dC : Nat → ClassId) (dI : Nat → Nat → Nat) (cI cB cJ cZ cM : ClassId) (z : Nat) (ad : Nat → Nat) (N : Nat) (p0 p1 : Int32) (hf : fJ0_checkIndex_df160 N p0 p1 = some ()) : xq_Ct l yJ0_checkIndex_df160 wsJ0_checkIndex_df160 { frames := 1, cells := 0, slots := 0, locals := 22 } (dC, dI) vwCl (xq_tys cI cB cJ cZ cM) z ad [.int p0, .int p1] [] [] none := by
  intro sz
  refine xq_ofW (cc := cJ0_checkIndex_df160) (maxL := 2) (ret := none) (by decide +kernel) rfl ?_
  intro p e s m args below meth c s₁ B hml hv
  obtain ⟨rfl, hsz, hP, hK, hD0, hE, hz⟩ := hv
  have hx := B.exec
  have hb := B.bytes
  have hr := B.returns
  have hts := atoms_spec (ws := wsJ0_checkIndex_df160) B.pre
  have hown : s.vm.findClass RJ0 = some m.cls := findClass_of_methodNamed B.named
  have hlocks := B.notSynchronized
  subst hsz
  have hD := hD0.self (sz := s.heap.size)
  have hN := xq_Env.of hE hz hD0
  generalize hAe : va_A [] s.heap.size = A at hD hN ⊢
  have hA : ∀ q : Nat, s.heap.size ≤ q → A q := fun q h => by rw [← hAe]; exact Or.inr h
  clear hAe hD0
  have hS : va_S A s.heap s.heap [] := va_S.rf
  have hl := lv_entry ([.int p0, .int p1]) (n := 2) (Nat.le_of_ble_eq_true rfl)
  rw [lg_entry_eq]
  generalize (lg_sl ([.int p0, .int p1]) ++ List.replicate (2 - (lg_sl ([.int p0, .int p1])).length) Slot.unset).toArray = ls at hl ⊢
  have hl : lv_has ls 2 [(0, .int p0), (1, .int p1)] := hl
  have hw0 := hts (.fieldLink RJ0 1053 "jdk/internal/util/Preconditions" "SIOOBE_FORMATTER" "Ljava/util/function/BiFunction;") (by decide +kernel)
  have hf3 : fJ3_checkIndex_8e157 N p0 p1 = some p0 := by
    unfold fJ0_checkIndex_df160 at hf
    unfold fJ3_checkIndex_8e157
    split at hf
    · cases hf
    · rename_i q1
      rw [if_neg q1]
      split at hf
      · rename_i q2
        rw [if_pos q2]
      · cases hf
  refine lv_iload_n hx hb dJ0_checkIndex_df160_0 rfl (lv_at hl 0 rfl) ?_
  refine lv_iload_n hx hb dJ0_checkIndex_df160_1 rfl (lv_at hl 1 rfl) ?_
  have go : ∀ vF : Value, vF.category = 1 → W p l e (headSpec wsJ0_checkIndex_df160 { frames := 1, cells := 0, slots := 0, locals := 22 }).room s m [.int p0, .int p1].toArray below meth c s.heap [] 0 0 (MQ below (xq_Q (dC, dI) vwCl (xq_tys cI cB cJ cZ cM) A [] none) [.int p0, .int p1].toArray s 0 0 A) (F0 m 5 ls [vF, .int p1, .int p0]) := by
    intro vF hv1
    refine xq_callS (As := [.int p0, .int p1, vF]) (rest := []) ⟨hx, hb, hml, hown, hts⟩ (kJ3_checkIndex_8e157 l dC dI cI cB cJ cZ cM z ad N p0 p1 vF hv1 hf3) (va_cwS 3 hts gJ0_checkIndex_df160_J3_checkIndex_8e157 rfl rfl rfl (by decide +kernel) ⟨Nat.le_of_ble_eq_true rfl, Nat.le_of_ble_eq_true rfl⟩) hN hK hP hD hS hA [] (by decide) rfl rfl rfl hl.1 rfl (Nat.le_of_ble_eq_true rfl) dJ0_checkIndex_df160_5 ⟨Nat.zero_le _, Nat.zero_le _⟩ (fun H locs hP hD hS => ?_)
    refine W.eq (g2 := F0 m 8 ls [.int p0]) rfl ?_
    refine lv_pop hx hb dJ0_checkIndex_df160_8 rfl ?_
    exact xq_vret hx hb hr hlocks hK hP hD hS dJ0_checkIndex_df160_9
  rcases hN.1.2.2.2.2.2.2 with hZ | ⟨t, hZ⟩
  · exact va_gets hx hb (hZ.narrow hN.2.2) hS hown hw0 (fun _ h9 => h9) dJ0_checkIndex_df160_2 (go .null rfl)
  · exact va_gets hx hb (hZ.narrow hN.2.2) hS hown hw0 (fun _ h9 => h9) dJ0_checkIndex_df160_2 (go (.ref t) rfl)
def dsJ0_coder_7d493_0 : List (Nat × Instr × Nat) := [(0, (.getstatic 38, 3)), (3, (.ifCond .eq 10, 3)), (6, (.aload_n 0, 1)), (7, (.getfield 15, 3)), (10, (.goto 4, 3)), (13, (.iconst 1, 1)), (14, (.ireturn, 1))]
theorem dsJ0_coder_7d493_0_ok : (dsJ0_coder_7d493_0.all fun q => decide (decode cJ0_coder_7d493 q.1 = .ok q.2)) = true := by decide +kernel
theorem dJ0_coder_7d493_0 : decode cJ0_coder_7d493 0 = .ok (.getstatic 38, 3) := of_decide_eq_true (List.all_eq_true.mp dsJ0_coder_7d493_0_ok (0, (.getstatic 38, 3)) (List.mem_of_getElem? (i := 0) rfl))
theorem dJ0_coder_7d493_3 : decode cJ0_coder_7d493 3 = .ok (.ifCond .eq 10, 3) := of_decide_eq_true (List.all_eq_true.mp dsJ0_coder_7d493_0_ok (3, (.ifCond .eq 10, 3)) (List.mem_of_getElem? (i := 1) rfl))
theorem dJ0_coder_7d493_6 : decode cJ0_coder_7d493 6 = .ok (.aload_n 0, 1) := of_decide_eq_true (List.all_eq_true.mp dsJ0_coder_7d493_0_ok (6, (.aload_n 0, 1)) (List.mem_of_getElem? (i := 2) rfl))
theorem dJ0_coder_7d493_7 : decode cJ0_coder_7d493 7 = .ok (.getfield 15, 3) := of_decide_eq_true (List.all_eq_true.mp dsJ0_coder_7d493_0_ok (7, (.getfield 15, 3)) (List.mem_of_getElem? (i := 3) rfl))
theorem dJ0_coder_7d493_10 : decode cJ0_coder_7d493 10 = .ok (.goto 4, 3) := of_decide_eq_true (List.all_eq_true.mp dsJ0_coder_7d493_0_ok (10, (.goto 4, 3)) (List.mem_of_getElem? (i := 4) rfl))
theorem dJ0_coder_7d493_13 : decode cJ0_coder_7d493 13 = .ok (.iconst 1, 1) := of_decide_eq_true (List.all_eq_true.mp dsJ0_coder_7d493_0_ok (13, (.iconst 1, 1)) (List.mem_of_getElem? (i := 5) rfl))
theorem dJ0_coder_7d493_14 : decode cJ0_coder_7d493 14 = .ok (.ireturn, 1) := of_decide_eq_true (List.all_eq_true.mp dsJ0_coder_7d493_0_ok (14, (.ireturn, 1)) (List.mem_of_getElem? (i := 6) rfl))
def fJ0_coder_7d493_s0 (N : Nat)    : Option (Int32) :=
  some 0
set_option maxHeartbeats 4000000 in
set_option maxRecDepth 100000 in
theorem kJ0_coder_7d493_s0 (l : Launch) (dC : Nat → ClassId) (dI : Nat → Nat → Nat) (cI cB cJ cZ cM : ClassId) (z : Nat) (ad : Nat → Nat) (N : Nat)  {r0 : Int32} (hf : fJ0_coder_7d493_s0 N  = some r0) : xq_Ct l yJ0_coder_7d493 wsJ0_coder_7d493 { frames := 0, cells := 0, slots := 0, locals := 0 } (dC, dI) vwCl (xq_tys cI cB cJ cZ cM) z ad [.ref (ad 0)] [] [] (some (.int r0)) := by
  intro sz
  refine xq_ofW (cc := cJ0_coder_7d493) (maxL := 1) (ret := (some .byte)) (by decide +kernel) rfl ?_
  intro p e s m args below meth c s₁ B hml hv
  obtain ⟨rfl, hsz, hP, hK, hD0, hE, hz⟩ := hv
  have hx := B.exec
  have hb := B.bytes
  have hr := B.returns
  have hts := atoms_spec (ws := wsJ0_coder_7d493) B.pre
  have hown : s.vm.findClass RJ0 = some m.cls := findClass_of_methodNamed B.named
  have hlocks := B.notSynchronized
  subst hsz
  have hD := hD0.self (sz := s.heap.size)
  have hN := xq_Env.of hE hz hD0
  generalize hAe : va_A [] s.heap.size = A at hD hN ⊢
  have hA : ∀ q : Nat, s.heap.size ≤ q → A q := fun q h => by rw [← hAe]; exact Or.inr h
  clear hAe hD0
  have hS : va_S A s.heap s.heap [] := va_S.rf
  have hl := lv_entry ([.ref (ad 0)]) (n := 1) (Nat.le_of_ble_eq_true rfl)
  rw [lg_entry_eq]
  generalize (lg_sl ([.ref (ad 0)]) ++ List.replicate (1 - (lg_sl ([.ref (ad 0)])).length) Slot.unset).toArray = ls at hl ⊢
  have hl : lv_has ls 1 [(0, .ref (ad 0))] := hl
  have hw0 := hts (.fieldLink RJ0 38 "java/lang/String" "COMPACT_STRINGS" "Z") (by decide +kernel)
  have hw1 := hts (.fieldLink RJ0 15 "java/lang/String" "coder" "B") (by decide +kernel)
  unfold fJ0_coder_7d493_s0 at hf
  refine va_gets hx hb (hN.1.2.2.2.2.2.1.narrow hN.2.2) hS hown hw0 (fun _ h9 => h9) dJ0_coder_7d493_0 ?_
  refine lv_if_eq (tgt := 13) hx hb dJ0_coder_7d493_3 (by decide) (fun c_ => absurd c_ (by decide)) (fun _ => ?_)
  refine lv_aload_n hx hb dJ0_coder_7d493_6 rfl (lv_at hl 0 rfl) ?_
  refine vk_getf (v := .int 0) hx hb ((hN.1.2.2.1.narrow hN.2.2).1 0 (by decide)).2.1 hS hown hw1 (fun _ h9 => h9) dJ0_coder_7d493_7 ?_
  refine lv_goto (tgt := 14) hx hb dJ0_coder_7d493_10 (by decide) ?_
  cases hf
  exact xq_zret hx hb hr (by decide +kernel) hlocks hK hP hD hS dJ0_coder_7d493_14
def dsJ0_isLatin1_aae02_0 : List (Nat × Instr × Nat) := [(0, (.getstatic 38, 3)), (3, (.ifCond .eq 14, 3)), (6, (.aload_n 0, 1)), (7, (.getfield 15, 3)), (10, (.ifCond .ne 7, 3)), (13, (.iconst 1, 1)), (14, (.goto 4, 3)), (17, (.iconst 0, 1)), (18, (.ireturn, 1))]
theorem dsJ0_isLatin1_aae02_0_ok : (dsJ0_isLatin1_aae02_0.all fun q => decide (decode cJ0_isLatin1_aae02 q.1 = .ok q.2)) = true := by decide +kernel
theorem dJ0_isLatin1_aae02_0 : decode cJ0_isLatin1_aae02 0 = .ok (.getstatic 38, 3) := of_decide_eq_true (List.all_eq_true.mp dsJ0_isLatin1_aae02_0_ok (0, (.getstatic 38, 3)) (List.mem_of_getElem? (i := 0) rfl))
theorem dJ0_isLatin1_aae02_3 : decode cJ0_isLatin1_aae02 3 = .ok (.ifCond .eq 14, 3) := of_decide_eq_true (List.all_eq_true.mp dsJ0_isLatin1_aae02_0_ok (3, (.ifCond .eq 14, 3)) (List.mem_of_getElem? (i := 1) rfl))
theorem dJ0_isLatin1_aae02_6 : decode cJ0_isLatin1_aae02 6 = .ok (.aload_n 0, 1) := of_decide_eq_true (List.all_eq_true.mp dsJ0_isLatin1_aae02_0_ok (6, (.aload_n 0, 1)) (List.mem_of_getElem? (i := 2) rfl))
theorem dJ0_isLatin1_aae02_7 : decode cJ0_isLatin1_aae02 7 = .ok (.getfield 15, 3) := of_decide_eq_true (List.all_eq_true.mp dsJ0_isLatin1_aae02_0_ok (7, (.getfield 15, 3)) (List.mem_of_getElem? (i := 3) rfl))
theorem dJ0_isLatin1_aae02_10 : decode cJ0_isLatin1_aae02 10 = .ok (.ifCond .ne 7, 3) := of_decide_eq_true (List.all_eq_true.mp dsJ0_isLatin1_aae02_0_ok (10, (.ifCond .ne 7, 3)) (List.mem_of_getElem? (i := 4) rfl))
theorem dJ0_isLatin1_aae02_13 : decode cJ0_isLatin1_aae02 13 = .ok (.iconst 1, 1) := of_decide_eq_true (List.all_eq_true.mp dsJ0_isLatin1_aae02_0_ok (13, (.iconst 1, 1)) (List.mem_of_getElem? (i := 5) rfl))
theorem dJ0_isLatin1_aae02_14 : decode cJ0_isLatin1_aae02 14 = .ok (.goto 4, 3) := of_decide_eq_true (List.all_eq_true.mp dsJ0_isLatin1_aae02_0_ok (14, (.goto 4, 3)) (List.mem_of_getElem? (i := 6) rfl))
theorem dJ0_isLatin1_aae02_17 : decode cJ0_isLatin1_aae02 17 = .ok (.iconst 0, 1) := of_decide_eq_true (List.all_eq_true.mp dsJ0_isLatin1_aae02_0_ok (17, (.iconst 0, 1)) (List.mem_of_getElem? (i := 7) rfl))
theorem dJ0_isLatin1_aae02_18 : decode cJ0_isLatin1_aae02 18 = .ok (.ireturn, 1) := of_decide_eq_true (List.all_eq_true.mp dsJ0_isLatin1_aae02_0_ok (18, (.ireturn, 1)) (List.mem_of_getElem? (i := 8) rfl))
def fJ0_isLatin1_aae02_s0 (N : Nat)    : Option (Int32) :=
  some 1
set_option maxHeartbeats 4000000 in
set_option maxRecDepth 100000 in
theorem kJ0_isLatin1_aae02_s0 (l : Launch) (dC : Nat → ClassId) (dI : Nat → Nat → Nat) (cI cB cJ cZ cM : ClassId) (z : Nat) (ad : Nat → Nat) (N : Nat)  {r0 : Int32} (hf : fJ0_isLatin1_aae02_s0 N  = some r0) : xq_Ct l yJ0_isLatin1_aae02 wsJ0_isLatin1_aae02 { frames := 0, cells := 0, slots := 0, locals := 0 } (dC, dI) vwCl (xq_tys cI cB cJ cZ cM) z ad [.ref (ad 0)] [] [] (some (.int r0)) := by
  intro sz
  refine xq_ofW (cc := cJ0_isLatin1_aae02) (maxL := 1) (ret := (some .boolean)) (by decide +kernel) rfl ?_
  intro p e s m args below meth c s₁ B hml hv
  obtain ⟨rfl, hsz, hP, hK, hD0, hE, hz⟩ := hv
  have hx := B.exec
  have hb := B.bytes
  have hr := B.returns
  have hts := atoms_spec (ws := wsJ0_isLatin1_aae02) B.pre
  have hown : s.vm.findClass RJ0 = some m.cls := findClass_of_methodNamed B.named
  have hlocks := B.notSynchronized
  subst hsz
  have hD := hD0.self (sz := s.heap.size)
  have hN := xq_Env.of hE hz hD0
  generalize hAe : va_A [] s.heap.size = A at hD hN ⊢
  have hA : ∀ q : Nat, s.heap.size ≤ q → A q := fun q h => by rw [← hAe]; exact Or.inr h
  clear hAe hD0
  have hS : va_S A s.heap s.heap [] := va_S.rf
  have hl := lv_entry ([.ref (ad 0)]) (n := 1) (Nat.le_of_ble_eq_true rfl)
  rw [lg_entry_eq]
  generalize (lg_sl ([.ref (ad 0)]) ++ List.replicate (1 - (lg_sl ([.ref (ad 0)])).length) Slot.unset).toArray = ls at hl ⊢
  have hl : lv_has ls 1 [(0, .ref (ad 0))] := hl
  have hw0 := hts (.fieldLink RJ0 38 "java/lang/String" "COMPACT_STRINGS" "Z") (by decide +kernel)
  have hw1 := hts (.fieldLink RJ0 15 "java/lang/String" "coder" "B") (by decide +kernel)
  unfold fJ0_isLatin1_aae02_s0 at hf
  refine va_gets hx hb (hN.1.2.2.2.2.2.1.narrow hN.2.2) hS hown hw0 (fun _ h9 => h9) dJ0_isLatin1_aae02_0 ?_
  refine lv_if_eq (tgt := 17) hx hb dJ0_isLatin1_aae02_3 (by decide) (fun c_ => absurd c_ (by decide)) (fun _ => ?_)
  refine lv_aload_n hx hb dJ0_isLatin1_aae02_6 rfl (lv_at hl 0 rfl) ?_
  refine vk_getf (v := .int 0) hx hb ((hN.1.2.2.1.narrow hN.2.2).1 0 (by decide)).2.1 hS hown hw1 (fun _ h9 => h9) dJ0_isLatin1_aae02_7 ?_
  refine lv_if_ne (tgt := 17) hx hb dJ0_isLatin1_aae02_10 (by decide) (fun c_ => absurd c_ (by decide)) (fun _ => ?_)
  refine lv_iconst (v := 1) hx hb dJ0_isLatin1_aae02_13 (by decide) ?_
  refine lv_goto (tgt := 18) hx hb dJ0_isLatin1_aae02_14 (by decide) ?_
  cases hf
  exact xq_zret hx hb hr (by decide +kernel) hlocks hK hP hD hS dJ0_isLatin1_aae02_18
def fJ0_coder_7d493_s1 (N : Nat)    : Option (Int32) :=
  some 0
set_option maxHeartbeats 4000000 in
set_option maxRecDepth 100000 in
theorem kJ0_coder_7d493_s1 (l : Launch) (dC : Nat → ClassId) (dI : Nat → Nat → Nat) (cI cB cJ cZ cM : ClassId) (z : Nat) (ad : Nat → Nat) (N : Nat)  {r0 : Int32} (hf : fJ0_coder_7d493_s1 N  = some r0) : xq_Ct l yJ0_coder_7d493 wsJ0_coder_7d493 { frames := 0, cells := 0, slots := 0, locals := 0 } (dC, dI) vwCl (xq_tys cI cB cJ cZ cM) z ad [.ref (ad 1)] [] [] (some (.int r0)) := by
  intro sz
  refine xq_ofW (cc := cJ0_coder_7d493) (maxL := 1) (ret := (some .byte)) (by decide +kernel) rfl ?_
  intro p e s m args below meth c s₁ B hml hv
  obtain ⟨rfl, hsz, hP, hK, hD0, hE, hz⟩ := hv
  have hx := B.exec
  have hb := B.bytes
  have hr := B.returns
  have hts := atoms_spec (ws := wsJ0_coder_7d493) B.pre
  have hown : s.vm.findClass RJ0 = some m.cls := findClass_of_methodNamed B.named
  have hlocks := B.notSynchronized
  subst hsz
  have hD := hD0.self (sz := s.heap.size)
  have hN := xq_Env.of hE hz hD0
  generalize hAe : va_A [] s.heap.size = A at hD hN ⊢
  have hA : ∀ q : Nat, s.heap.size ≤ q → A q := fun q h => by rw [← hAe]; exact Or.inr h
  clear hAe hD0
  have hS : va_S A s.heap s.heap [] := va_S.rf
  have hl := lv_entry ([.ref (ad 1)]) (n := 1) (Nat.le_of_ble_eq_true rfl)
  rw [lg_entry_eq]
  generalize (lg_sl ([.ref (ad 1)]) ++ List.replicate (1 - (lg_sl ([.ref (ad 1)])).length) Slot.unset).toArray = ls at hl ⊢
  have hl : lv_has ls 1 [(0, .ref (ad 1))] := hl
  have hw0 := hts (.fieldLink RJ0 38 "java/lang/String" "COMPACT_STRINGS" "Z") (by decide +kernel)
  have hw1 := hts (.fieldLink RJ0 15 "java/lang/String" "coder" "B") (by decide +kernel)
  unfold fJ0_coder_7d493_s1 at hf
  refine va_gets hx hb (hN.1.2.2.2.2.2.1.narrow hN.2.2) hS hown hw0 (fun _ h9 => h9) dJ0_coder_7d493_0 ?_
  refine lv_if_eq (tgt := 13) hx hb dJ0_coder_7d493_3 (by decide) (fun c_ => absurd c_ (by decide)) (fun _ => ?_)
  refine lv_aload_n hx hb dJ0_coder_7d493_6 rfl (lv_at hl 0 rfl) ?_
  refine vk_getf (v := .int 0) hx hb ((hN.1.2.2.1.narrow hN.2.2).1 1 (by decide)).2.1 hS hown hw1 (fun _ h9 => h9) dJ0_coder_7d493_7 ?_
  refine lv_goto (tgt := 14) hx hb dJ0_coder_7d493_10 (by decide) ?_
  cases hf
  exact xq_zret hx hb hr (by decide +kernel) hlocks hK hP hD hS dJ0_coder_7d493_14
def fJ0_isLatin1_aae02_s1 (N : Nat)    : Option (Int32) :=
  some 1
set_option maxHeartbeats 4000000 in
set_option maxRecDepth 100000 in
theorem kJ0_isLatin1_aae02_s1 (l : Launch) (dC : Nat → ClassId) (dI : Nat → Nat → Nat) (cI cB cJ cZ cM : ClassId) (z : Nat) (ad : Nat → Nat) (N : Nat)  {r0 : Int32} (hf : fJ0_isLatin1_aae02_s1 N  = some r0) : xq_Ct l yJ0_isLatin1_aae02 wsJ0_isLatin1_aae02 { frames := 0, cells := 0, slots := 0, locals := 0 } (dC, dI) vwCl (xq_tys cI cB cJ cZ cM) z ad [.ref (ad 1)] [] [] (some (.int r0)) := by
  intro sz
  refine xq_ofW (cc := cJ0_isLatin1_aae02) (maxL := 1) (ret := (some .boolean)) (by decide +kernel) rfl ?_
  intro p e s m args below meth c s₁ B hml hv
  obtain ⟨rfl, hsz, hP, hK, hD0, hE, hz⟩ := hv
  have hx := B.exec
  have hb := B.bytes
  have hr := B.returns
  have hts := atoms_spec (ws := wsJ0_isLatin1_aae02) B.pre
  have hown : s.vm.findClass RJ0 = some m.cls := findClass_of_methodNamed B.named
  have hlocks := B.notSynchronized
  subst hsz
  have hD := hD0.self (sz := s.heap.size)
  have hN := xq_Env.of hE hz hD0
  generalize hAe : va_A [] s.heap.size = A at hD hN ⊢
  have hA : ∀ q : Nat, s.heap.size ≤ q → A q := fun q h => by rw [← hAe]; exact Or.inr h
  clear hAe hD0
  have hS : va_S A s.heap s.heap [] := va_S.rf
  have hl := lv_entry ([.ref (ad 1)]) (n := 1) (Nat.le_of_ble_eq_true rfl)
  rw [lg_entry_eq]
  generalize (lg_sl ([.ref (ad 1)]) ++ List.replicate (1 - (lg_sl ([.ref (ad 1)])).length) Slot.unset).toArray = ls at hl ⊢
  have hl : lv_has ls 1 [(0, .ref (ad 1))] := hl
  have hw0 := hts (.fieldLink RJ0 38 "java/lang/String" "COMPACT_STRINGS" "Z") (by decide +kernel)
  have hw1 := hts (.fieldLink RJ0 15 "java/lang/String" "coder" "B") (by decide +kernel)
  unfold fJ0_isLatin1_aae02_s1 at hf
  refine va_gets hx hb (hN.1.2.2.2.2.2.1.narrow hN.2.2) hS hown hw0 (fun _ h9 => h9) dJ0_isLatin1_aae02_0 ?_
  refine lv_if_eq (tgt := 17) hx hb dJ0_isLatin1_aae02_3 (by decide) (fun c_ => absurd c_ (by decide)) (fun _ => ?_)
  refine lv_aload_n hx hb dJ0_isLatin1_aae02_6 rfl (lv_at hl 0 rfl) ?_
  refine vk_getf (v := .int 0) hx hb ((hN.1.2.2.1.narrow hN.2.2).1 1 (by decide)).2.1 hS hown hw1 (fun _ h9 => h9) dJ0_isLatin1_aae02_7 ?_
  refine lv_if_ne (tgt := 17) hx hb dJ0_isLatin1_aae02_10 (by decide) (fun c_ => absurd c_ (by decide)) (fun _ => ?_)
  refine lv_iconst (v := 1) hx hb dJ0_isLatin1_aae02_13 (by decide) ?_
  refine lv_goto (tgt := 18) hx hb dJ0_isLatin1_aae02_14 (by decide) ?_
  cases hf
  exact xq_zret hx hb hr (by decide +kernel) hlocks hK hP hD hS dJ0_isLatin1_aae02_18
set_option maxRecDepth 20000 in
theorem ggJ0_length_8abf5_J0_coder_7d493 : GoodIn wsJ0_length_8abf5 wsJ0_coder_7d493 := goodIn_r _ [6, 7, 8] rfl (by decide +kernel)
set_option maxRecDepth 20000 in
theorem gJ0_length_8abf5_J0_coder_7d493 : GoodIn wsJ0_length_8abf5 (wsV RJ0 335 RJ0 yJ0_coder_7d493 wsJ0_coder_7d493) := goodIn_app (goodIn_of _ (by decide +kernel)) ggJ0_length_8abf5_J0_coder_7d493
def dsJ0_length_8abf5_0 : List (Nat × Instr × Nat) := [(0, (.aload_n 0, 1)), (1, (.getfield 9, 3)), (4, (.arraylength, 1)), (5, (.aload_n 0, 1)), (6, (.invokevirtual 335, 3)), (9, (.ishr, 1)), (10, (.ireturn, 1))]
theorem dsJ0_length_8abf5_0_ok : (dsJ0_length_8abf5_0.all fun q => decide (decode cJ0_length_8abf5 q.1 = .ok q.2)) = true := by decide +kernel
theorem dJ0_length_8abf5_0 : decode cJ0_length_8abf5 0 = .ok (.aload_n 0, 1) := of_decide_eq_true (List.all_eq_true.mp dsJ0_length_8abf5_0_ok (0, (.aload_n 0, 1)) (List.mem_of_getElem? (i := 0) rfl))
theorem dJ0_length_8abf5_1 : decode cJ0_length_8abf5 1 = .ok (.getfield 9, 3) := of_decide_eq_true (List.all_eq_true.mp dsJ0_length_8abf5_0_ok (1, (.getfield 9, 3)) (List.mem_of_getElem? (i := 1) rfl))
theorem dJ0_length_8abf5_4 : decode cJ0_length_8abf5 4 = .ok (.arraylength, 1) := of_decide_eq_true (List.all_eq_true.mp dsJ0_length_8abf5_0_ok (4, (.arraylength, 1)) (List.mem_of_getElem? (i := 2) rfl))
theorem dJ0_length_8abf5_5 : decode cJ0_length_8abf5 5 = .ok (.aload_n 0, 1) := of_decide_eq_true (List.all_eq_true.mp dsJ0_length_8abf5_0_ok (5, (.aload_n 0, 1)) (List.mem_of_getElem? (i := 3) rfl))
theorem dJ0_length_8abf5_6 : decode cJ0_length_8abf5 6 = .ok (.invokevirtual 335, 3) := of_decide_eq_true (List.all_eq_true.mp dsJ0_length_8abf5_0_ok (6, (.invokevirtual 335, 3)) (List.mem_of_getElem? (i := 4) rfl))
theorem dJ0_length_8abf5_9 : decode cJ0_length_8abf5 9 = .ok (.ishr, 1) := of_decide_eq_true (List.all_eq_true.mp dsJ0_length_8abf5_0_ok (9, (.ishr, 1)) (List.mem_of_getElem? (i := 5) rfl))
theorem dJ0_length_8abf5_10 : decode cJ0_length_8abf5 10 = .ok (.ireturn, 1) := of_decide_eq_true (List.all_eq_true.mp dsJ0_length_8abf5_0_ok (10, (.ireturn, 1)) (List.mem_of_getElem? (i := 6) rfl))
def fJ0_length_8abf5_s1 (N : Nat)    : Option (Int32) :=
  some ((116 : Int32) >>> (0 &&& 31))
set_option maxHeartbeats 4000000 in
set_option maxRecDepth 100000 in
theorem kJ0_length_8abf5_s1 (l : Launch) (dC : Nat → ClassId) (dI : Nat → Nat → Nat) (cI cB cJ cZ cM : ClassId) (z : Nat) (ad : Nat → Nat) (N : Nat)  {r0 : Int32} (hf : fJ0_length_8abf5_s1 N  = some r0) : xq_Ct l yJ0_length_8abf5 wsJ0_length_8abf5 { frames := 1, cells := 0, slots := 0, locals := 20 } (dC, dI) vwCl (xq_tys cI cB cJ cZ cM) z ad [.ref (ad 1)] [] [] (some (.int r0)) := by
  intro sz
  refine xq_ofW (cc := cJ0_length_8abf5) (maxL := 1) (ret := (some .int)) (by decide +kernel) rfl ?_
  intro p e s m args below meth c s₁ B hml hv
  obtain ⟨rfl, hsz, hP, hK, hD0, hE, hz⟩ := hv
  have hx := B.exec
  have hb := B.bytes
  have hr := B.returns
  have hts := atoms_spec (ws := wsJ0_length_8abf5) B.pre
  have hown : s.vm.findClass RJ0 = some m.cls := findClass_of_methodNamed B.named
  have hlocks := B.notSynchronized
  subst hsz
  have hD := hD0.self (sz := s.heap.size)
  have hN := xq_Env.of hE hz hD0
  generalize hAe : va_A [] s.heap.size = A at hD hN ⊢
  have hA : ∀ q : Nat, s.heap.size ≤ q → A q := fun q h => by rw [← hAe]; exact Or.inr h
  clear hAe hD0
  have hS : va_S A s.heap s.heap [] := va_S.rf
  have hl := lv_entry ([.ref (ad 1)]) (n := 1) (Nat.le_of_ble_eq_true rfl)
  rw [lg_entry_eq]
  generalize (lg_sl ([.ref (ad 1)]) ++ List.replicate (1 - (lg_sl ([.ref (ad 1)])).length) Slot.unset).toArray = ls at hl ⊢
  have hl : lv_has ls 1 [(0, .ref (ad 1))] := hl
  have hw0 := hts (.fieldLink RJ0 9 "java/lang/String" "value" "[B") (by decide +kernel)
  unfold fJ0_length_8abf5_s1 at hf
  refine lv_aload_n hx hb dJ0_length_8abf5_0 rfl (lv_at hl 0 rfl) ?_
  refine vk_getf (v := .ref (ad 3)) hx hb ((hN.1.2.2.1.narrow hN.2.2).1 1 (by decide)).2.2.1 hS hown hw0 (fun _ h9 => h9) dJ0_length_8abf5_1 ?_
  refine va_tlen hx hb ((hN.1.2.2.1.narrow hN.2.2).1 1 (by decide)).2.2.2 hS (v := 116) rfl dJ0_length_8abf5_4 ?_
  refine lv_aload_n hx hb dJ0_length_8abf5_5 rfl (lv_at hl 0 rfl) ?_
  refine xq_callVS (As := []) (rest := [.int 116]) ⟨hx, hb, hml, hown, hts⟩ (kJ0_coder_7d493_s1 l dC dI cI cB cJ cZ cM z ad N (r0 := 0) rfl) (cwV 0 hts gJ0_length_8abf5_J0_coder_7d493 rfl rfl rfl (by decide +kernel) ⟨Nat.le_of_ble_eq_true rfl, Nat.le_of_ble_eq_true rfl⟩) hN hK hP hD hS hA [] (by decide) rfl rfl (vk_recv (hN.1.2.2.1.narrow hN.2.2) (i := 1) (by decide) hS) rfl hl.1 rfl (Nat.le_of_ble_eq_true rfl) dJ0_length_8abf5_6 ⟨Nat.zero_le _, Nat.zero_le _⟩ (fun H locs hP hD hS => ?_)
  have hP : va_P (dC, dI) vwCl [] H := hP
  have hD : va_D A [] := hD
  refine W.eq (g2 := F0 m 9 ls [.int 0, .int 116]) rfl ?_
  refine lv_ishr hx hb dJ0_length_8abf5_9 ?_
  cases hf
  exact xq_iret hx hb hr hlocks hK hP hD hS dJ0_length_8abf5_10
def fJ0_length_8abf5_s0 (N : Nat)    : Option (Int32) :=
  some ((14 : Int32) >>> (0 &&& 31))
set_option maxHeartbeats 4000000 in
set_option maxRecDepth 100000 in
theorem kJ0_length_8abf5_s0 (l : Launch) (dC : Nat → ClassId) (dI : Nat → Nat → Nat) (cI cB cJ cZ cM : ClassId) (z : Nat) (ad : Nat → Nat) (N : Nat)  {r0 : Int32} (hf : fJ0_length_8abf5_s0 N  = some r0) : xq_Ct l yJ0_length_8abf5 wsJ0_length_8abf5 { frames := 1, cells := 0, slots := 0, locals := 20 } (dC, dI) vwCl (xq_tys cI cB cJ cZ cM) z ad [.ref (ad 0)] [] [] (some (.int r0)) := by
  intro sz
  refine xq_ofW (cc := cJ0_length_8abf5) (maxL := 1) (ret := (some .int)) (by decide +kernel) rfl ?_
  intro p e s m args below meth c s₁ B hml hv
  obtain ⟨rfl, hsz, hP, hK, hD0, hE, hz⟩ := hv
  have hx := B.exec
  have hb := B.bytes
  have hr := B.returns
  have hts := atoms_spec (ws := wsJ0_length_8abf5) B.pre
  have hown : s.vm.findClass RJ0 = some m.cls := findClass_of_methodNamed B.named
  have hlocks := B.notSynchronized
  subst hsz
  have hD := hD0.self (sz := s.heap.size)
  have hN := xq_Env.of hE hz hD0
  generalize hAe : va_A [] s.heap.size = A at hD hN ⊢
  have hA : ∀ q : Nat, s.heap.size ≤ q → A q := fun q h => by rw [← hAe]; exact Or.inr h
  clear hAe hD0
  have hS : va_S A s.heap s.heap [] := va_S.rf
  have hl := lv_entry ([.ref (ad 0)]) (n := 1) (Nat.le_of_ble_eq_true rfl)
  rw [lg_entry_eq]
  generalize (lg_sl ([.ref (ad 0)]) ++ List.replicate (1 - (lg_sl ([.ref (ad 0)])).length) Slot.unset).toArray = ls at hl ⊢
  have hl : lv_has ls 1 [(0, .ref (ad 0))] := hl
  have hw0 := hts (.fieldLink RJ0 9 "java/lang/String" "value" "[B") (by decide +kernel)
  unfold fJ0_length_8abf5_s0 at hf
  refine lv_aload_n hx hb dJ0_length_8abf5_0 rfl (lv_at hl 0 rfl) ?_
  refine vk_getf (v := .ref (ad 2)) hx hb ((hN.1.2.2.1.narrow hN.2.2).1 0 (by decide)).2.2.1 hS hown hw0 (fun _ h9 => h9) dJ0_length_8abf5_1 ?_
  refine va_tlen hx hb ((hN.1.2.2.1.narrow hN.2.2).1 0 (by decide)).2.2.2 hS (v := 14) rfl dJ0_length_8abf5_4 ?_
  refine lv_aload_n hx hb dJ0_length_8abf5_5 rfl (lv_at hl 0 rfl) ?_
  refine xq_callVS (As := []) (rest := [.int 14]) ⟨hx, hb, hml, hown, hts⟩ (kJ0_coder_7d493_s0 l dC dI cI cB cJ cZ cM z ad N (r0 := 0) rfl) (cwV 0 hts gJ0_length_8abf5_J0_coder_7d493 rfl rfl rfl (by decide +kernel) ⟨Nat.le_of_ble_eq_true rfl, Nat.le_of_ble_eq_true rfl⟩) hN hK hP hD hS hA [] (by decide) rfl rfl (vk_recv (hN.1.2.2.1.narrow hN.2.2) (i := 0) (by decide) hS) rfl hl.1 rfl (Nat.le_of_ble_eq_true rfl) dJ0_length_8abf5_6 ⟨Nat.zero_le _, Nat.zero_le _⟩ (fun H locs hP hD hS => ?_)
  have hP : va_P (dC, dI) vwCl [] H := hP
  have hD : va_D A [] := hD
  refine W.eq (g2 := F0 m 9 ls [.int 0, .int 14]) rfl ?_
  refine lv_ishr hx hb dJ0_length_8abf5_9 ?_
  cases hf
  exact xq_iret hx hb hr hlocks hK hP hD hS dJ0_length_8abf5_10
def dsJ1_canEncode_9a6ad_0 : List (Nat × Instr × Nat) := [(0, (.iload_n 0, 1)), (1, (.ifCond .lt 14, 3)), (4, (.iload_n 0, 1)), (5, (.sipush 255, 3)), (8, (.if_icmp .gt 7, 3)), (11, (.iconst 1, 1)), (12, (.goto 4, 3)), (15, (.iconst 0, 1)), (16, (.ireturn, 1))]
theorem dsJ1_canEncode_9a6ad_0_ok : (dsJ1_canEncode_9a6ad_0.all fun q => decide (decode cJ1_canEncode_9a6ad q.1 = .ok q.2)) = true := by decide +kernel
theorem dJ1_canEncode_9a6ad_0 : decode cJ1_canEncode_9a6ad 0 = .ok (.iload_n 0, 1) := of_decide_eq_true (List.all_eq_true.mp dsJ1_canEncode_9a6ad_0_ok (0, (.iload_n 0, 1)) (List.mem_of_getElem? (i := 0) rfl))
theorem dJ1_canEncode_9a6ad_1 : decode cJ1_canEncode_9a6ad 1 = .ok (.ifCond .lt 14, 3) := of_decide_eq_true (List.all_eq_true.mp dsJ1_canEncode_9a6ad_0_ok (1, (.ifCond .lt 14, 3)) (List.mem_of_getElem? (i := 1) rfl))
theorem dJ1_canEncode_9a6ad_4 : decode cJ1_canEncode_9a6ad 4 = .ok (.iload_n 0, 1) := of_decide_eq_true (List.all_eq_true.mp dsJ1_canEncode_9a6ad_0_ok (4, (.iload_n 0, 1)) (List.mem_of_getElem? (i := 2) rfl))
theorem dJ1_canEncode_9a6ad_5 : decode cJ1_canEncode_9a6ad 5 = .ok (.sipush 255, 3) := of_decide_eq_true (List.all_eq_true.mp dsJ1_canEncode_9a6ad_0_ok (5, (.sipush 255, 3)) (List.mem_of_getElem? (i := 3) rfl))
theorem dJ1_canEncode_9a6ad_8 : decode cJ1_canEncode_9a6ad 8 = .ok (.if_icmp .gt 7, 3) := of_decide_eq_true (List.all_eq_true.mp dsJ1_canEncode_9a6ad_0_ok (8, (.if_icmp .gt 7, 3)) (List.mem_of_getElem? (i := 4) rfl))
theorem dJ1_canEncode_9a6ad_11 : decode cJ1_canEncode_9a6ad 11 = .ok (.iconst 1, 1) := of_decide_eq_true (List.all_eq_true.mp dsJ1_canEncode_9a6ad_0_ok (11, (.iconst 1, 1)) (List.mem_of_getElem? (i := 5) rfl))
theorem dJ1_canEncode_9a6ad_12 : decode cJ1_canEncode_9a6ad 12 = .ok (.goto 4, 3) := of_decide_eq_true (List.all_eq_true.mp dsJ1_canEncode_9a6ad_0_ok (12, (.goto 4, 3)) (List.mem_of_getElem? (i := 6) rfl))
theorem dJ1_canEncode_9a6ad_15 : decode cJ1_canEncode_9a6ad 15 = .ok (.iconst 0, 1) := of_decide_eq_true (List.all_eq_true.mp dsJ1_canEncode_9a6ad_0_ok (15, (.iconst 0, 1)) (List.mem_of_getElem? (i := 7) rfl))
theorem dJ1_canEncode_9a6ad_16 : decode cJ1_canEncode_9a6ad 16 = .ok (.ireturn, 1) := of_decide_eq_true (List.all_eq_true.mp dsJ1_canEncode_9a6ad_0_ok (16, (.ireturn, 1)) (List.mem_of_getElem? (i := 8) rfl))
def fJ1_canEncode_9a6ad (N : Nat)   (p0 : Int32) : Option (Int32) :=
  (if p0 < 0 then some 0 else (if 255 < p0 then some 0 else some 1))
set_option maxHeartbeats 4000000 in
set_option maxRecDepth 100000 in
theorem kJ1_canEncode_9a6ad (l : Launch) (dC : Nat → ClassId) (dI : Nat → Nat → Nat) (cI cB cJ cZ cM : ClassId) (z : Nat) (ad : Nat → Nat) (N : Nat) (p0 : Int32) {r0 : Int32} (hf : fJ1_canEncode_9a6ad N p0 = some r0) : xq_Ct l yJ1_canEncode_9a6ad wsJ1_canEncode_9a6ad { frames := 0, cells := 0, slots := 0, locals := 0 } (dC, dI) vwCl (xq_tys cI cB cJ cZ cM) z ad [.int p0] [] [] (some (.int r0)) := by
  intro sz
  refine xq_ofW (cc := cJ1_canEncode_9a6ad) (maxL := 1) (ret := (some .boolean)) (by decide +kernel) rfl ?_
  intro p e s m args below meth c s₁ B hml hv
  obtain ⟨rfl, hsz, hP, hK, hD0, hE, hz⟩ := hv
  have hx := B.exec
  have hb := B.bytes
  have hr := B.returns
  have hts := atoms_spec (ws := wsJ1_canEncode_9a6ad) B.pre
  have hown : s.vm.findClass RJ1 = some m.cls := findClass_of_methodNamed B.named
  have hlocks := B.notSynchronized
  subst hsz
  have hD := hD0.self (sz := s.heap.size)
  have hN := xq_Env.of hE hz hD0
  generalize hAe : va_A [] s.heap.size = A at hD hN ⊢
  have hA : ∀ q : Nat, s.heap.size ≤ q → A q := fun q h => by rw [← hAe]; exact Or.inr h
  clear hAe hD0
  have hS : va_S A s.heap s.heap [] := va_S.rf
  have hl := lv_entry ([.int p0]) (n := 1) (Nat.le_of_ble_eq_true rfl)
  rw [lg_entry_eq]
  generalize (lg_sl ([.int p0]) ++ List.replicate (1 - (lg_sl ([.int p0])).length) Slot.unset).toArray = ls at hl ⊢
  have hl : lv_has ls 1 [(0, .int p0)] := hl
  unfold fJ1_canEncode_9a6ad at hf
  refine lv_iload_n hx hb dJ1_canEncode_9a6ad_0 rfl (lv_at hl 0 rfl) ?_
  refine lv_if_lt (tgt := 15) hx hb dJ1_canEncode_9a6ad_1 (by decide) (fun c_ => ?_) (fun c_ => ?_)
  · have hf := xq_pos hf c_
    refine lv_iconst (v := 0) hx hb dJ1_canEncode_9a6ad_15 (by decide) ?_
    cases hf
    exact xq_zret hx hb hr (by decide +kernel) hlocks hK hP hD hS dJ1_canEncode_9a6ad_16
  · have hf := xq_neg hf c_
    refine lv_iload_n hx hb dJ1_canEncode_9a6ad_4 rfl (lv_at hl 0 rfl) ?_
    refine lv_sipush (v := 255) hx hb dJ1_canEncode_9a6ad_5 (by decide) ?_
    refine lv_icmp_gt (tgt := 15) hx hb dJ1_canEncode_9a6ad_8 (by decide) (fun c_ => ?_) (fun c_ => ?_)
    · have hf := xq_pos hf c_
      refine lv_iconst (v := 0) hx hb dJ1_canEncode_9a6ad_15 (by decide) ?_
      cases hf
      exact xq_zret hx hb hr (by decide +kernel) hlocks hK hP hD hS dJ1_canEncode_9a6ad_16
    · have hf := xq_neg hf c_
      refine lv_iconst (v := 1) hx hb dJ1_canEncode_9a6ad_11 (by decide) ?_
      refine lv_goto (tgt := 16) hx hb dJ1_canEncode_9a6ad_12 (by decide) ?_
      cases hf
      exact xq_zret hx hb hr (by decide +kernel) hlocks hK hP hD hS dJ1_canEncode_9a6ad_16
def dsJ1_indexOfChar_4cfef_0 : List (Nat × Instr × Nat) := [(0, (.iload_n 1, 1)), (1, (.i2b, 1)), (2, (.istore 4, 2)), (4, (.iload_n 2, 1)), (5, (.istore 5, 2)), (7, (.iload 5, 2)), (9, (.iload_n 3, 1)), (10, (.if_icmp .ge 21, 3)), (13, (.aload_n 0, 1)), (14, (.iload 5, 2)), (16, (.baload, 1)), (17, (.iload 4, 2)), (19, (.if_icmp .ne 6, 3)), (22, (.iload 5, 2)), (24, (.ireturn, 1)), (25, (.iinc 5 1, 3)), (28, (.goto (-21), 3)), (31, (.iconst (-1), 1)), (32, (.ireturn, 1))]
theorem dsJ1_indexOfChar_4cfef_0_ok : (dsJ1_indexOfChar_4cfef_0.all fun q => decide (decode cJ1_indexOfChar_4cfef q.1 = .ok q.2)) = true := by decide +kernel
theorem dJ1_indexOfChar_4cfef_0 : decode cJ1_indexOfChar_4cfef 0 = .ok (.iload_n 1, 1) := of_decide_eq_true (List.all_eq_true.mp dsJ1_indexOfChar_4cfef_0_ok (0, (.iload_n 1, 1)) (List.mem_of_getElem? (i := 0) rfl))
theorem dJ1_indexOfChar_4cfef_1 : decode cJ1_indexOfChar_4cfef 1 = .ok (.i2b, 1) := of_decide_eq_true (List.all_eq_true.mp dsJ1_indexOfChar_4cfef_0_ok (1, (.i2b, 1)) (List.mem_of_getElem? (i := 1) rfl))
theorem dJ1_indexOfChar_4cfef_2 : decode cJ1_indexOfChar_4cfef 2 = .ok (.istore 4, 2) := of_decide_eq_true (List.all_eq_true.mp dsJ1_indexOfChar_4cfef_0_ok (2, (.istore 4, 2)) (List.mem_of_getElem? (i := 2) rfl))
theorem dJ1_indexOfChar_4cfef_4 : decode cJ1_indexOfChar_4cfef 4 = .ok (.iload_n 2, 1) := of_decide_eq_true (List.all_eq_true.mp dsJ1_indexOfChar_4cfef_0_ok (4, (.iload_n 2, 1)) (List.mem_of_getElem? (i := 3) rfl))
theorem dJ1_indexOfChar_4cfef_5 : decode cJ1_indexOfChar_4cfef 5 = .ok (.istore 5, 2) := of_decide_eq_true (List.all_eq_true.mp dsJ1_indexOfChar_4cfef_0_ok (5, (.istore 5, 2)) (List.mem_of_getElem? (i := 4) rfl))
theorem dJ1_indexOfChar_4cfef_7 : decode cJ1_indexOfChar_4cfef 7 = .ok (.iload 5, 2) := of_decide_eq_true (List.all_eq_true.mp dsJ1_indexOfChar_4cfef_0_ok (7, (.iload 5, 2)) (List.mem_of_getElem? (i := 5) rfl))
theorem dJ1_indexOfChar_4cfef_9 : decode cJ1_indexOfChar_4cfef 9 = .ok (.iload_n 3, 1) := of_decide_eq_true (List.all_eq_true.mp dsJ1_indexOfChar_4cfef_0_ok (9, (.iload_n 3, 1)) (List.mem_of_getElem? (i := 6) rfl))
theorem dJ1_indexOfChar_4cfef_10 : decode cJ1_indexOfChar_4cfef 10 = .ok (.if_icmp .ge 21, 3) := of_decide_eq_true (List.all_eq_true.mp dsJ1_indexOfChar_4cfef_0_ok (10, (.if_icmp .ge 21, 3)) (List.mem_of_getElem? (i := 7) rfl))
theorem dJ1_indexOfChar_4cfef_13 : decode cJ1_indexOfChar_4cfef 13 = .ok (.aload_n 0, 1) := of_decide_eq_true (List.all_eq_true.mp dsJ1_indexOfChar_4cfef_0_ok (13, (.aload_n 0, 1)) (List.mem_of_getElem? (i := 8) rfl))
theorem dJ1_indexOfChar_4cfef_14 : decode cJ1_indexOfChar_4cfef 14 = .ok (.iload 5, 2) := of_decide_eq_true (List.all_eq_true.mp dsJ1_indexOfChar_4cfef_0_ok (14, (.iload 5, 2)) (List.mem_of_getElem? (i := 9) rfl))
theorem dJ1_indexOfChar_4cfef_16 : decode cJ1_indexOfChar_4cfef 16 = .ok (.baload, 1) := of_decide_eq_true (List.all_eq_true.mp dsJ1_indexOfChar_4cfef_0_ok (16, (.baload, 1)) (List.mem_of_getElem? (i := 10) rfl))
theorem dJ1_indexOfChar_4cfef_17 : decode cJ1_indexOfChar_4cfef 17 = .ok (.iload 4, 2) := of_decide_eq_true (List.all_eq_true.mp dsJ1_indexOfChar_4cfef_0_ok (17, (.iload 4, 2)) (List.mem_of_getElem? (i := 11) rfl))
theorem dJ1_indexOfChar_4cfef_19 : decode cJ1_indexOfChar_4cfef 19 = .ok (.if_icmp .ne 6, 3) := of_decide_eq_true (List.all_eq_true.mp dsJ1_indexOfChar_4cfef_0_ok (19, (.if_icmp .ne 6, 3)) (List.mem_of_getElem? (i := 12) rfl))
theorem dJ1_indexOfChar_4cfef_22 : decode cJ1_indexOfChar_4cfef 22 = .ok (.iload 5, 2) := of_decide_eq_true (List.all_eq_true.mp dsJ1_indexOfChar_4cfef_0_ok (22, (.iload 5, 2)) (List.mem_of_getElem? (i := 13) rfl))
theorem dJ1_indexOfChar_4cfef_24 : decode cJ1_indexOfChar_4cfef 24 = .ok (.ireturn, 1) := of_decide_eq_true (List.all_eq_true.mp dsJ1_indexOfChar_4cfef_0_ok (24, (.ireturn, 1)) (List.mem_of_getElem? (i := 14) rfl))
theorem dJ1_indexOfChar_4cfef_25 : decode cJ1_indexOfChar_4cfef 25 = .ok (.iinc 5 1, 3) := of_decide_eq_true (List.all_eq_true.mp dsJ1_indexOfChar_4cfef_0_ok (25, (.iinc 5 1, 3)) (List.mem_of_getElem? (i := 15) rfl))
theorem dJ1_indexOfChar_4cfef_28 : decode cJ1_indexOfChar_4cfef 28 = .ok (.goto (-21), 3) := of_decide_eq_true (List.all_eq_true.mp dsJ1_indexOfChar_4cfef_0_ok (28, (.goto (-21), 3)) (List.mem_of_getElem? (i := 16) rfl))
theorem dJ1_indexOfChar_4cfef_31 : decode cJ1_indexOfChar_4cfef 31 = .ok (.iconst (-1), 1) := of_decide_eq_true (List.all_eq_true.mp dsJ1_indexOfChar_4cfef_0_ok (31, (.iconst (-1), 1)) (List.mem_of_getElem? (i := 17) rfl))
theorem dJ1_indexOfChar_4cfef_32 : decode cJ1_indexOfChar_4cfef 32 = .ok (.ireturn, 1) := of_decide_eq_true (List.all_eq_true.mp dsJ1_indexOfChar_4cfef_0_ok (32, (.ireturn, 1)) (List.mem_of_getElem? (i := 18) rfl))
def fJ1_indexOfChar_4cfef_s0_l7 (N : Nat)   (k7 : (Int32 × Int32 × Int32) → Option (Int32)) : (Int32 × Int32 × Int32) → Option (Int32) :=
  fun (x3_7, x4_7, x5_7) => (if x3_7 ≤ x5_7 then some ((-1)) else (xq_bd (xq_ald 14 (xq_sb 0) x5_7) fun v_1 => (if v_1 = x4_7 then some x5_7 else k7 (x3_7, x4_7, x5_7 + 1))))
def fJ1_indexOfChar_4cfef_s0 (N : Nat)   (p1 : Int32) (p2 : Int32) (p3 : Int32) : Option (Int32) :=
  xq_loop (fJ1_indexOfChar_4cfef_s0_l7 N) N (p3, p1.toInt8.toInt32, p2)
set_option maxHeartbeats 4000000 in
set_option maxRecDepth 100000 in
theorem kJ1_indexOfChar_4cfef_s0 (l : Launch) (dC : Nat → ClassId) (dI : Nat → Nat → Nat) (cI cB cJ cZ cM : ClassId) (z : Nat) (ad : Nat → Nat) (N : Nat) (p1 : Int32) (p2 : Int32) (p3 : Int32) {r0 : Int32} (hf : fJ1_indexOfChar_4cfef_s0 N p1 p2 p3 = some r0) : xq_Ct l yJ1_indexOfChar_4cfef wsJ1_indexOfChar_4cfef { frames := 0, cells := 0, slots := 0, locals := 0 } (dC, dI) vwCl (xq_tys cI cB cJ cZ cM) z ad [.ref (ad 2), .int p1, .int p2, .int p3] [] [] (some (.int r0)) := by
  intro sz
  refine xq_ofW (cc := cJ1_indexOfChar_4cfef) (maxL := 6) (ret := (some .int)) (by decide +kernel) rfl ?_
  intro p e s m args below meth c s₁ B hml hv
  obtain ⟨rfl, hsz, hP, hK, hD0, hE, hz⟩ := hv
  have hx := B.exec
  have hb := B.bytes
  have hr := B.returns
  have hts := atoms_spec (ws := wsJ1_indexOfChar_4cfef) B.pre
  have hown : s.vm.findClass RJ1 = some m.cls := findClass_of_methodNamed B.named
  have hlocks := B.notSynchronized
  subst hsz
  have hD := hD0.self (sz := s.heap.size)
  have hN := xq_Env.of hE hz hD0
  generalize hAe : va_A [] s.heap.size = A at hD hN ⊢
  have hA : ∀ q : Nat, s.heap.size ≤ q → A q := fun q h => by rw [← hAe]; exact Or.inr h
  clear hAe hD0
  have hS : va_S A s.heap s.heap [] := va_S.rf
  have hl := lv_entry ([.ref (ad 2), .int p1, .int p2, .int p3]) (n := 6) (Nat.le_of_ble_eq_true rfl)
  rw [lg_entry_eq]
  generalize (lg_sl ([.ref (ad 2), .int p1, .int p2, .int p3]) ++ List.replicate (6 - (lg_sl ([.ref (ad 2), .int p1, .int p2, .int p3])).length) Slot.unset).toArray = ls at hl ⊢
  have hl : lv_has ls 6 [(0, .ref (ad 2)), (1, .int p1), (2, .int p2), (3, .int p3)] := hl
  have l7 : ∀ n7 : Nat, ∀ (x3_7 : Int32) (x4_7 : Int32) (x5_7 : Int32) (ls : Array Slot) (H : Heap) (locs : List Loc), xq_loop (fJ1_indexOfChar_4cfef_s0_l7 N) n7 (x3_7, x4_7, x5_7) = some r0 → va_P (dC, dI) vwCl [] H → va_D A [] → va_S A s.heap H locs → lv_has ls 6 [(0, .ref (ad 2)), (3, .int x3_7), (4, .int x4_7), (5, .int x5_7)] → W p l e (headSpec wsJ1_indexOfChar_4cfef { frames := 0, cells := 0, slots := 0, locals := 0 }).room s m [.ref (ad 2), .int p1, .int p2, .int p3].toArray below meth c H locs 0 0 (MQ below (xq_Q (dC, dI) vwCl (xq_tys cI cB cJ cZ cM) A [] (some (.int r0))) [.ref (ad 2), .int p1, .int p2, .int p3].toArray s 0 0 A) (F0 m 7 ls []) := by
    intro n7
    induction n7 with
    | zero => intro x3_7 x4_7 x5_7 ls H locs hf; cases (show none = some r0 from hf)
    | succ n7 ih7 =>
      intro x3_7 x4_7 x5_7 ls H locs hf hP hD hS hl
      have hf : fJ1_indexOfChar_4cfef_s0_l7 N (xq_loop (fJ1_indexOfChar_4cfef_s0_l7 N) n7) (x3_7, x4_7, x5_7) = some r0 := hf
      unfold fJ1_indexOfChar_4cfef_s0_l7 at hf
      refine lv_iload hx hb dJ1_indexOfChar_4cfef_7 (lv_at hl 3 rfl) ?_
      refine lv_iload_n hx hb dJ1_indexOfChar_4cfef_9 rfl (lv_at hl 1 rfl) ?_
      refine lv_icmp_ge (tgt := 31) hx hb dJ1_indexOfChar_4cfef_10 (by decide) (fun c_ => ?_) (fun c_ => ?_)
      · have hf := xq_pos hf c_
        refine lv_iconst (v := (-1)) hx hb dJ1_indexOfChar_4cfef_31 (by decide) ?_
        cases hf
        exact xq_iret hx hb hr hlocks hK hP hD hS dJ1_indexOfChar_4cfef_32
      · have hf := xq_neg hf c_
        refine lv_aload_n hx hb dJ1_indexOfChar_4cfef_13 rfl (lv_at hl 0 rfl) ?_
        refine lv_iload hx hb dJ1_indexOfChar_4cfef_14 (lv_at hl 3 rfl) ?_
        refine xq_tb (n := 14) (f := xq_sb 0) hx hb ((hN.1.2.2.1.narrow hN.2.2).1 0 (by decide)).2.2.2 hS hf dJ1_indexOfChar_4cfef_16 (fun v_1 hf => ?_)
        refine lv_iload hx hb dJ1_indexOfChar_4cfef_17 (lv_at hl 2 rfl) ?_
        refine lv_icmp_ne (tgt := 25) hx hb dJ1_indexOfChar_4cfef_19 (by decide) (fun c_ => ?_) (fun c_ => ?_)
        · have hf := xq_neg hf c_
          refine lv_iinc (v := x5_7 + 1) (lv' := [(5, .int (x5_7 + 1)), (0, .ref (ad 2)), (3, .int x3_7), (4, .int x4_7)]) hx hb dJ1_indexOfChar_4cfef_25 hl (k := 3) rfl (congrArg (fun q9 => x5_7 + q9) (by decide : Int32.ofInt 1 = 1)) (by decide) rfl (fun ls hl => ?_)
          refine lv_goto (tgt := 7) hx hb dJ1_indexOfChar_4cfef_28 (by decide) ?_
          exact ih7 x3_7 x4_7 (x5_7 + 1) _ _ _ hf hP hD hS (lv_sub hl [1, 2, 3, 0] rfl)
        · have hf := xq_pos hf c_
          refine lv_iload hx hb dJ1_indexOfChar_4cfef_22 (lv_at hl 3 rfl) ?_
          cases hf
          exact xq_iret hx hb hr hlocks hK hP hD hS dJ1_indexOfChar_4cfef_24
  unfold fJ1_indexOfChar_4cfef_s0 at hf
  refine lv_iload_n hx hb dJ1_indexOfChar_4cfef_0 rfl (lv_at hl 1 rfl) ?_
  refine lv_i2b (v := p1.toInt8.toInt32) hx hb dJ1_indexOfChar_4cfef_1 rfl ?_
  refine lv_istore (lv' := [(4, .int p1.toInt8.toInt32), (0, .ref (ad 2)), (1, .int p1), (2, .int p2), (3, .int p3)]) hx hb dJ1_indexOfChar_4cfef_2 hl (by decide) rfl (fun ls hl => ?_)
  refine lv_iload_n hx hb dJ1_indexOfChar_4cfef_4 rfl (lv_at hl 3 rfl) ?_
  refine lv_istore (lv' := [(5, .int p2), (4, .int p1.toInt8.toInt32), (0, .ref (ad 2)), (1, .int p1), (2, .int p2), (3, .int p3)]) hx hb dJ1_indexOfChar_4cfef_5 hl (by decide) rfl (fun ls hl => ?_)
  exact l7 N p3 p1.toInt8.toInt32 p2 _ _ _ hf hP hD hS (lv_sub hl [2, 5, 1, 0] rfl)
set_option maxRecDepth 20000 in
theorem ggJ1_indexOf_4cfef_J1_canEncode_9a6ad : GoodIn wsJ1_indexOf_4cfef wsJ1_canEncode_9a6ad := goodIn_r _ [11] rfl (by decide +kernel)
set_option maxRecDepth 20000 in
theorem gJ1_indexOf_4cfef_J1_canEncode_9a6ad : GoodIn wsJ1_indexOf_4cfef (va_wsS RJ1 88 yJ1_canEncode_9a6ad wsJ1_canEncode_9a6ad) := goodIn_app (goodIn_of _ (by decide +kernel)) ggJ1_indexOf_4cfef_J1_canEncode_9a6ad
set_option maxRecDepth 20000 in
theorem ggJ1_indexOf_4cfef_J1_indexOfChar_4cfef : GoodIn wsJ1_indexOf_4cfef wsJ1_indexOfChar_4cfef := goodIn_r _ [14] rfl (by decide +kernel)
set_option maxRecDepth 20000 in
theorem gJ1_indexOf_4cfef_J1_indexOfChar_4cfef : GoodIn wsJ1_indexOf_4cfef (va_wsS RJ1 95 yJ1_indexOfChar_4cfef wsJ1_indexOfChar_4cfef) := goodIn_app (goodIn_of _ (by decide +kernel)) ggJ1_indexOf_4cfef_J1_indexOfChar_4cfef
def dsJ1_indexOf_4cfef_0 : List (Nat × Instr × Nat) := [(0, (.iload_n 1, 1)), (1, (.invokestatic 88, 3)), (4, (.ifCond .ne 5, 3)), (7, (.iconst (-1), 1)), (8, (.ireturn, 1)), (9, (.iload_n 2, 1)), (10, (.iconst 0, 1)), (11, (.invokestatic 92, 3)), (14, (.istore_n 2, 1)), (15, (.iload_n 3, 1)), (16, (.aload_n 0, 1)), (17, (.arraylength, 1)), (18, (.invokestatic 38, 3)), (21, (.istore_n 3, 1)), (22, (.iload_n 2, 1)), (23, (.iload_n 3, 1)), (24, (.if_icmp .lt 5, 3)), (27, (.iconst (-1), 1)), (28, (.ireturn, 1)), (29, (.aload_n 0, 1)), (30, (.iload_n 1, 1)), (31, (.iload_n 2, 1)), (32, (.iload_n 3, 1)), (33, (.invokestatic 95, 3)), (36, (.ireturn, 1))]
theorem dsJ1_indexOf_4cfef_0_ok : (dsJ1_indexOf_4cfef_0.all fun q => decide (decode cJ1_indexOf_4cfef q.1 = .ok q.2)) = true := by decide +kernel
theorem dJ1_indexOf_4cfef_0 : decode cJ1_indexOf_4cfef 0 = .ok (.iload_n 1, 1) := of_decide_eq_true (List.all_eq_true.mp dsJ1_indexOf_4cfef_0_ok (0, (.iload_n 1, 1)) (List.mem_of_getElem? (i := 0) rfl))
theorem dJ1_indexOf_4cfef_1 : decode cJ1_indexOf_4cfef 1 = .ok (.invokestatic 88, 3) := of_decide_eq_true (List.all_eq_true.mp dsJ1_indexOf_4cfef_0_ok (1, (.invokestatic 88, 3)) (List.mem_of_getElem? (i := 1) rfl))
theorem dJ1_indexOf_4cfef_4 : decode cJ1_indexOf_4cfef 4 = .ok (.ifCond .ne 5, 3) := of_decide_eq_true (List.all_eq_true.mp dsJ1_indexOf_4cfef_0_ok (4, (.ifCond .ne 5, 3)) (List.mem_of_getElem? (i := 2) rfl))
theorem dJ1_indexOf_4cfef_7 : decode cJ1_indexOf_4cfef 7 = .ok (.iconst (-1), 1) := of_decide_eq_true (List.all_eq_true.mp dsJ1_indexOf_4cfef_0_ok (7, (.iconst (-1), 1)) (List.mem_of_getElem? (i := 3) rfl))
theorem dJ1_indexOf_4cfef_8 : decode cJ1_indexOf_4cfef 8 = .ok (.ireturn, 1) := of_decide_eq_true (List.all_eq_true.mp dsJ1_indexOf_4cfef_0_ok (8, (.ireturn, 1)) (List.mem_of_getElem? (i := 4) rfl))
theorem dJ1_indexOf_4cfef_9 : decode cJ1_indexOf_4cfef 9 = .ok (.iload_n 2, 1) := of_decide_eq_true (List.all_eq_true.mp dsJ1_indexOf_4cfef_0_ok (9, (.iload_n 2, 1)) (List.mem_of_getElem? (i := 5) rfl))
theorem dJ1_indexOf_4cfef_10 : decode cJ1_indexOf_4cfef 10 = .ok (.iconst 0, 1) := of_decide_eq_true (List.all_eq_true.mp dsJ1_indexOf_4cfef_0_ok (10, (.iconst 0, 1)) (List.mem_of_getElem? (i := 6) rfl))
theorem dJ1_indexOf_4cfef_11 : decode cJ1_indexOf_4cfef 11 = .ok (.invokestatic 92, 3) := of_decide_eq_true (List.all_eq_true.mp dsJ1_indexOf_4cfef_0_ok (11, (.invokestatic 92, 3)) (List.mem_of_getElem? (i := 7) rfl))
theorem dJ1_indexOf_4cfef_14 : decode cJ1_indexOf_4cfef 14 = .ok (.istore_n 2, 1) := of_decide_eq_true (List.all_eq_true.mp dsJ1_indexOf_4cfef_0_ok (14, (.istore_n 2, 1)) (List.mem_of_getElem? (i := 8) rfl))
theorem dJ1_indexOf_4cfef_15 : decode cJ1_indexOf_4cfef 15 = .ok (.iload_n 3, 1) := of_decide_eq_true (List.all_eq_true.mp dsJ1_indexOf_4cfef_0_ok (15, (.iload_n 3, 1)) (List.mem_of_getElem? (i := 9) rfl))
theorem dJ1_indexOf_4cfef_16 : decode cJ1_indexOf_4cfef 16 = .ok (.aload_n 0, 1) := of_decide_eq_true (List.all_eq_true.mp dsJ1_indexOf_4cfef_0_ok (16, (.aload_n 0, 1)) (List.mem_of_getElem? (i := 10) rfl))
theorem dJ1_indexOf_4cfef_17 : decode cJ1_indexOf_4cfef 17 = .ok (.arraylength, 1) := of_decide_eq_true (List.all_eq_true.mp dsJ1_indexOf_4cfef_0_ok (17, (.arraylength, 1)) (List.mem_of_getElem? (i := 11) rfl))
theorem dJ1_indexOf_4cfef_18 : decode cJ1_indexOf_4cfef 18 = .ok (.invokestatic 38, 3) := of_decide_eq_true (List.all_eq_true.mp dsJ1_indexOf_4cfef_0_ok (18, (.invokestatic 38, 3)) (List.mem_of_getElem? (i := 12) rfl))
theorem dJ1_indexOf_4cfef_21 : decode cJ1_indexOf_4cfef 21 = .ok (.istore_n 3, 1) := of_decide_eq_true (List.all_eq_true.mp dsJ1_indexOf_4cfef_0_ok (21, (.istore_n 3, 1)) (List.mem_of_getElem? (i := 13) rfl))
theorem dJ1_indexOf_4cfef_22 : decode cJ1_indexOf_4cfef 22 = .ok (.iload_n 2, 1) := of_decide_eq_true (List.all_eq_true.mp dsJ1_indexOf_4cfef_0_ok (22, (.iload_n 2, 1)) (List.mem_of_getElem? (i := 14) rfl))
theorem dJ1_indexOf_4cfef_23 : decode cJ1_indexOf_4cfef 23 = .ok (.iload_n 3, 1) := of_decide_eq_true (List.all_eq_true.mp dsJ1_indexOf_4cfef_0_ok (23, (.iload_n 3, 1)) (List.mem_of_getElem? (i := 15) rfl))
theorem dJ1_indexOf_4cfef_24 : decode cJ1_indexOf_4cfef 24 = .ok (.if_icmp .lt 5, 3) := of_decide_eq_true (List.all_eq_true.mp dsJ1_indexOf_4cfef_0_ok (24, (.if_icmp .lt 5, 3)) (List.mem_of_getElem? (i := 16) rfl))
theorem dJ1_indexOf_4cfef_27 : decode cJ1_indexOf_4cfef 27 = .ok (.iconst (-1), 1) := of_decide_eq_true (List.all_eq_true.mp dsJ1_indexOf_4cfef_0_ok (27, (.iconst (-1), 1)) (List.mem_of_getElem? (i := 17) rfl))
theorem dJ1_indexOf_4cfef_28 : decode cJ1_indexOf_4cfef 28 = .ok (.ireturn, 1) := of_decide_eq_true (List.all_eq_true.mp dsJ1_indexOf_4cfef_0_ok (28, (.ireturn, 1)) (List.mem_of_getElem? (i := 18) rfl))
theorem dJ1_indexOf_4cfef_29 : decode cJ1_indexOf_4cfef 29 = .ok (.aload_n 0, 1) := of_decide_eq_true (List.all_eq_true.mp dsJ1_indexOf_4cfef_0_ok (29, (.aload_n 0, 1)) (List.mem_of_getElem? (i := 19) rfl))
theorem dJ1_indexOf_4cfef_30 : decode cJ1_indexOf_4cfef 30 = .ok (.iload_n 1, 1) := of_decide_eq_true (List.all_eq_true.mp dsJ1_indexOf_4cfef_0_ok (30, (.iload_n 1, 1)) (List.mem_of_getElem? (i := 20) rfl))
theorem dJ1_indexOf_4cfef_31 : decode cJ1_indexOf_4cfef 31 = .ok (.iload_n 2, 1) := of_decide_eq_true (List.all_eq_true.mp dsJ1_indexOf_4cfef_0_ok (31, (.iload_n 2, 1)) (List.mem_of_getElem? (i := 21) rfl))
theorem dJ1_indexOf_4cfef_32 : decode cJ1_indexOf_4cfef 32 = .ok (.iload_n 3, 1) := of_decide_eq_true (List.all_eq_true.mp dsJ1_indexOf_4cfef_0_ok (32, (.iload_n 3, 1)) (List.mem_of_getElem? (i := 22) rfl))
theorem dJ1_indexOf_4cfef_33 : decode cJ1_indexOf_4cfef 33 = .ok (.invokestatic 95, 3) := of_decide_eq_true (List.all_eq_true.mp dsJ1_indexOf_4cfef_0_ok (33, (.invokestatic 95, 3)) (List.mem_of_getElem? (i := 23) rfl))
theorem dJ1_indexOf_4cfef_36 : decode cJ1_indexOf_4cfef 36 = .ok (.ireturn, 1) := of_decide_eq_true (List.all_eq_true.mp dsJ1_indexOf_4cfef_0_ok (36, (.ireturn, 1)) (List.mem_of_getElem? (i := 24) rfl))
def fJ1_indexOf_4cfef_s0 (N : Nat)   (p1 : Int32) (p2 : Int32) (p3 : Int32) : Option (Int32) :=
  (xq_bd (fJ1_canEncode_9a6ad N p1) fun r_1 => (if r_1 = 0 then some ((-1)) else (if (xq_max p2 0) < (xq_min p3 14) then (xq_bd (fJ1_indexOfChar_4cfef_s0 N p1 (xq_max p2 0) (xq_min p3 14)) fun r_3 => some r_3) else some ((-1)))))
set_option maxHeartbeats 4000000 in
set_option maxRecDepth 100000 in
theorem kJ1_indexOf_4cfef_s0 (l : Launch) (dC : Nat → ClassId) (dI : Nat → Nat → Nat) (cI cB cJ cZ cM : ClassId) (z : Nat) (ad : Nat → Nat) (N : Nat) (p1 : Int32) (p2 : Int32) (p3 : Int32) {r0 : Int32} (hf : fJ1_indexOf_4cfef_s0 N p1 p2 p3 = some r0) : xq_Ct l yJ1_indexOf_4cfef wsJ1_indexOf_4cfef { frames := 1, cells := 0, slots := 0, locals := 25 } (dC, dI) vwCl (xq_tys cI cB cJ cZ cM) z ad [.ref (ad 2), .int p1, .int p2, .int p3] [] [] (some (.int r0)) := by
  intro sz
  refine xq_ofW (cc := cJ1_indexOf_4cfef) (maxL := 4) (ret := (some .int)) (by decide +kernel) rfl ?_
  intro p e s m args below meth c s₁ B hml hv
  obtain ⟨rfl, hsz, hP, hK, hD0, hE, hz⟩ := hv
  have hx := B.exec
  have hb := B.bytes
  have hr := B.returns
  have hts := atoms_spec (ws := wsJ1_indexOf_4cfef) B.pre
  have hown : s.vm.findClass RJ1 = some m.cls := findClass_of_methodNamed B.named
  have hlocks := B.notSynchronized
  subst hsz
  have hD := hD0.self (sz := s.heap.size)
  have hN := xq_Env.of hE hz hD0
  generalize hAe : va_A [] s.heap.size = A at hD hN ⊢
  have hA : ∀ q : Nat, s.heap.size ≤ q → A q := fun q h => by rw [← hAe]; exact Or.inr h
  clear hAe hD0
  have hS : va_S A s.heap s.heap [] := va_S.rf
  have hl := lv_entry ([.ref (ad 2), .int p1, .int p2, .int p3]) (n := 4) (Nat.le_of_ble_eq_true rfl)
  rw [lg_entry_eq]
  generalize (lg_sl ([.ref (ad 2), .int p1, .int p2, .int p3]) ++ List.replicate (4 - (lg_sl ([.ref (ad 2), .int p1, .int p2, .int p3])).length) Slot.unset).toArray = ls at hl ⊢
  have hl : lv_has ls 4 [(0, .ref (ad 2)), (1, .int p1), (2, .int p2), (3, .int p3)] := hl
  have hw0 := hts (.methodLink RJ1 92 Lib.Math.max.name) (by decide +kernel)
  have hw1 := hts (.static Lib.Math.max.name) (by decide +kernel)
  have hw2 := hts (.initialized "java/lang/Math") (by decide +kernel)
  have hw3 := hts (.code Lib.Math.max.name Lib.Math.max.code 2 (some .int)) (by decide +kernel)
  have hw4 := hts (.methodLink RJ1 38 Lib.Math.min.name) (by decide +kernel)
  have hw5 := hts (.static Lib.Math.min.name) (by decide +kernel)
  have hw6 := hts (.code Lib.Math.min.name Lib.Math.min.code 2 (some .int)) (by decide +kernel)
  unfold fJ1_indexOf_4cfef_s0 at hf
  refine lv_iload_n hx hb dJ1_indexOf_4cfef_0 rfl (lv_at hl 1 rfl) ?_
  obtain ⟨r_1, h_2, hf⟩ := xq_bd_some hf
  refine xq_callS (As := [.int p1]) (rest := []) ⟨hx, hb, hml, hown, hts⟩ (kJ1_canEncode_9a6ad l dC dI cI cB cJ cZ cM z ad N p1 h_2) (va_cwS 1 hts gJ1_indexOf_4cfef_J1_canEncode_9a6ad rfl rfl rfl (by decide +kernel) ⟨Nat.le_of_ble_eq_true rfl, Nat.le_of_ble_eq_true rfl⟩) hN hK hP hD hS hA [] (by decide) rfl rfl rfl hl.1 rfl (Nat.le_of_ble_eq_true rfl) dJ1_indexOf_4cfef_1 ⟨Nat.zero_le _, Nat.zero_le _⟩ (fun H locs hP hD hS => ?_)
  have hP : va_P (dC, dI) vwCl [] H := hP
  have hD : va_D A [] := hD
  refine W.eq (g2 := F0 m 4 ls [.int r_1]) rfl ?_
  refine lv_if_ne (tgt := 9) hx hb dJ1_indexOf_4cfef_4 (by decide) (fun c_ => ?_) (fun c_ => ?_)
  · have hf := xq_neg hf c_
    refine lv_iload_n hx hb dJ1_indexOf_4cfef_9 rfl (lv_at hl 2 rfl) ?_
    refine lv_iconst (v := 0) hx hb dJ1_indexOf_4cfef_10 (by decide) ?_
    refine va_mmax hx hb (hml.trans hl.1.symm) hown hw0 hw1 hw2 hw3 (Nat.le_of_ble_eq_true rfl) (Nat.le_of_ble_eq_true rfl) (Nat.zero_le _) (Nat.zero_le _) dJ1_indexOf_4cfef_11 ?_
    refine W.eq (g2 := F0 m 14 ls [.int (xq_max p2 0)]) rfl ?_
    refine lv_istore_n (lv' := [(2, .int (xq_max p2 0)), (0, .ref (ad 2)), (1, .int p1), (3, .int p3)]) hx hb dJ1_indexOf_4cfef_14 rfl hl (by decide) rfl (fun ls hl => ?_)
    refine lv_iload_n hx hb dJ1_indexOf_4cfef_15 rfl (lv_at hl 3 rfl) ?_
    refine lv_aload_n hx hb dJ1_indexOf_4cfef_16 rfl (lv_at hl 1 rfl) ?_
    refine va_tlen hx hb ((hN.1.2.2.1.narrow hN.2.2).1 0 (by decide)).2.2.2 hS (v := 14) rfl dJ1_indexOf_4cfef_17 ?_
    refine va_mmin hx hb (hml.trans hl.1.symm) hown hw4 hw5 hw2 hw6 (Nat.le_of_ble_eq_true rfl) (Nat.le_of_ble_eq_true rfl) (Nat.zero_le _) (Nat.zero_le _) dJ1_indexOf_4cfef_18 ?_
    refine W.eq (g2 := F0 m 21 ls [.int (xq_min p3 14)]) rfl ?_
    refine lv_istore_n (lv' := [(3, .int (xq_min p3 14)), (2, .int (xq_max p2 0)), (0, .ref (ad 2)), (1, .int p1)]) hx hb dJ1_indexOf_4cfef_21 rfl hl (by decide) rfl (fun ls hl => ?_)
    refine lv_iload_n hx hb dJ1_indexOf_4cfef_22 rfl (lv_at hl 1 rfl) ?_
    refine lv_iload_n hx hb dJ1_indexOf_4cfef_23 rfl (lv_at hl 0 rfl) ?_
    refine lv_icmp_lt (tgt := 29) hx hb dJ1_indexOf_4cfef_24 (by decide) (fun c_ => ?_) (fun c_ => ?_)
    · have hf := xq_pos hf c_
      refine lv_aload_n hx hb dJ1_indexOf_4cfef_29 rfl (lv_at hl 2 rfl) ?_
      refine lv_iload_n hx hb dJ1_indexOf_4cfef_30 rfl (lv_at hl 3 rfl) ?_
      refine lv_iload_n hx hb dJ1_indexOf_4cfef_31 rfl (lv_at hl 1 rfl) ?_
      refine lv_iload_n hx hb dJ1_indexOf_4cfef_32 rfl (lv_at hl 0 rfl) ?_
      obtain ⟨r_3, h_4, hf⟩ := xq_bd_some hf
      refine xq_callS (As := [.ref (ad 2), .int p1, .int (xq_max p2 0), .int (xq_min p3 14)]) (rest := []) ⟨hx, hb, hml, hown, hts⟩ (kJ1_indexOfChar_4cfef_s0 l dC dI cI cB cJ cZ cM z ad N p1 (xq_max p2 0) (xq_min p3 14) h_4) (va_cwS 4 hts gJ1_indexOf_4cfef_J1_indexOfChar_4cfef rfl rfl rfl (by decide +kernel) ⟨Nat.le_of_ble_eq_true rfl, Nat.le_of_ble_eq_true rfl⟩) hN hK hP hD hS hA [] (by decide) rfl rfl rfl hl.1 rfl (Nat.le_of_ble_eq_true rfl) dJ1_indexOf_4cfef_33 ⟨Nat.zero_le _, Nat.zero_le _⟩ (fun H locs hP hD hS => ?_)
      have hP : va_P (dC, dI) vwCl [] H := hP
      have hD : va_D A [] := hD
      refine W.eq (g2 := F0 m 36 ls [.int r_3]) rfl ?_
      cases hf
      exact xq_iret hx hb hr hlocks hK hP hD hS dJ1_indexOf_4cfef_36
    · have hf := xq_neg hf c_
      refine lv_iconst (v := (-1)) hx hb dJ1_indexOf_4cfef_27 (by decide) ?_
      cases hf
      exact xq_iret hx hb hr hlocks hK hP hD hS dJ1_indexOf_4cfef_28
  · have hf := xq_pos hf c_
    refine lv_iconst (v := (-1)) hx hb dJ1_indexOf_4cfef_7 (by decide) ?_
    cases hf
    exact xq_iret hx hb hr hlocks hK hP hD hS dJ1_indexOf_4cfef_8
set_option maxRecDepth 20000 in
theorem ggJ0_indexOf_7cf53_J0_isLatin1_aae02 : GoodIn wsJ0_indexOf_7cf53 wsJ0_isLatin1_aae02 := goodIn_r _ [6, 7, 8] rfl (by decide +kernel)
set_option maxRecDepth 20000 in
theorem gJ0_indexOf_7cf53_J0_isLatin1_aae02 : GoodIn wsJ0_indexOf_7cf53 (wsV RJ0 492 RJ0 yJ0_isLatin1_aae02 wsJ0_isLatin1_aae02) := goodIn_app (goodIn_of _ (by decide +kernel)) ggJ0_indexOf_7cf53_J0_isLatin1_aae02
set_option maxRecDepth 20000 in
theorem ggJ0_indexOf_7cf53_J0_length_8abf5 : GoodIn wsJ0_indexOf_7cf53 wsJ0_length_8abf5 := goodIn_r _ [12, 1, 13, 14, 15, 5, 16, 7, 8] rfl (by decide +kernel)
set_option maxRecDepth 20000 in
theorem gJ0_indexOf_7cf53_J0_length_8abf5 : GoodIn wsJ0_indexOf_7cf53 (wsV RJ0 505 RJ0 yJ0_length_8abf5 wsJ0_length_8abf5) := goodIn_app (goodIn_of _ (by decide +kernel)) ggJ0_indexOf_7cf53_J0_length_8abf5
set_option maxRecDepth 20000 in
theorem ggJ0_indexOf_7cf53_J1_indexOf_4cfef : GoodIn wsJ0_indexOf_7cf53 wsJ1_indexOf_4cfef := goodIn_r _ [20, 21, 22, 23, 24, 25, 26, 27, 28, 29, 19, 30, 31, 32, 33] rfl (by decide +kernel)
set_option maxRecDepth 20000 in
theorem gJ0_indexOf_7cf53_J1_indexOf_4cfef : GoodIn wsJ0_indexOf_7cf53 (va_wsS RJ0 637 yJ1_indexOf_4cfef wsJ1_indexOf_4cfef) := goodIn_app (goodIn_of _ (by decide +kernel)) ggJ0_indexOf_7cf53_J1_indexOf_4cfef
set_option maxRecDepth 20000 in
theorem ggJ0_indexOf_7cf53_J2_indexOf_4cfef : GoodIn wsJ0_indexOf_7cf53 wsJ2_indexOf_4cfef := goodIn_r _ [37, 38, 22, 23, 24, 39, 26, 27, 40, 41, 42, 36, 43, 44, 45, 46, 47, 48, 49, 50, 51, 5, 52, 53, 54, 55, 56, 57, 58, 59, 60, 61, 62, 63, 64, 65, 66, 67, 68, 69, 70, 71, 72, 73, 74, 75, 76, 77, 78, 79, 80, 81] rfl (by decide +kernel)
set_option maxRecDepth 20000 in
theorem gJ0_indexOf_7cf53_J2_indexOf_4cfef : GoodIn wsJ0_indexOf_7cf53 (va_wsS RJ0 640 yJ2_indexOf_4cfef wsJ2_indexOf_4cfef) := goodIn_app (goodIn_of _ (by decide +kernel)) ggJ0_indexOf_7cf53_J2_indexOf_4cfef
def dsJ0_indexOf_7cf53_0 : List (Nat × Instr × Nat) := [(0, (.aload_n 0, 1)), (1, (.invokevirtual 492, 3)), (4, (.ifCond .eq 19, 3)), (7, (.aload_n 0, 1)), (8, (.getfield 9, 3)), (11, (.iload_n 1, 1)), (12, (.iload_n 2, 1)), (13, (.aload_n 0, 1)), (14, (.invokevirtual 505, 3)), (17, (.invokestatic 637, 3)), (20, (.goto 16, 3)), (23, (.aload_n 0, 1)), (24, (.getfield 9, 3)), (27, (.iload_n 1, 1)), (28, (.iload_n 2, 1)), (29, (.aload_n 0, 1)), (30, (.invokevirtual 505, 3)), (33, (.invokestatic 640, 3)), (36, (.ireturn, 1))]
theorem dsJ0_indexOf_7cf53_0_ok : (dsJ0_indexOf_7cf53_0.all fun q => decide (decode cJ0_indexOf_7cf53 q.1 = .ok q.2)) = true := by decide +kernel
theorem dJ0_indexOf_7cf53_0 : decode cJ0_indexOf_7cf53 0 = .ok (.aload_n 0, 1) := of_decide_eq_true (List.all_eq_true.mp dsJ0_indexOf_7cf53_0_ok (0, (.aload_n 0, 1)) (List.mem_of_getElem? (i := 0) rfl))
theorem dJ0_indexOf_7cf53_1 : decode cJ0_indexOf_7cf53 1 = .ok (.invokevirtual 492, 3) := of_decide_eq_true (List.all_eq_true.mp dsJ0_indexOf_7cf53_0_ok (1, (.invokevirtual 492, 3)) (List.mem_of_getElem? (i := 1) rfl))
theorem dJ0_indexOf_7cf53_4 : decode cJ0_indexOf_7cf53 4 = .ok (.ifCond .eq 19, 3) := of_decide_eq_true (List.all_eq_true.mp dsJ0_indexOf_7cf53_0_ok (4, (.ifCond .eq 19, 3)) (List.mem_of_getElem? (i := 2) rfl))
theorem dJ0_indexOf_7cf53_7 : decode cJ0_indexOf_7cf53 7 = .ok (.aload_n 0, 1) := of_decide_eq_true (List.all_eq_true.mp dsJ0_indexOf_7cf53_0_ok (7, (.aload_n 0, 1)) (List.mem_of_getElem? (i := 3) rfl))
theorem dJ0_indexOf_7cf53_8 : decode cJ0_indexOf_7cf53 8 = .ok (.getfield 9, 3) := of_decide_eq_true (List.all_eq_true.mp dsJ0_indexOf_7cf53_0_ok (8, (.getfield 9, 3)) (List.mem_of_getElem? (i := 4) rfl))
theorem dJ0_indexOf_7cf53_11 : decode cJ0_indexOf_7cf53 11 = .ok (.iload_n 1, 1) := of_decide_eq_true (List.all_eq_true.mp dsJ0_indexOf_7cf53_0_ok (11, (.iload_n 1, 1)) (List.mem_of_getElem? (i := 5) rfl))
theorem dJ0_indexOf_7cf53_12 : decode cJ0_indexOf_7cf53 12 = .ok (.iload_n 2, 1) := of_decide_eq_true (List.all_eq_true.mp dsJ0_indexOf_7cf53_0_ok (12, (.iload_n 2, 1)) (List.mem_of_getElem? (i := 6) rfl))
theorem dJ0_indexOf_7cf53_13 : decode cJ0_indexOf_7cf53 13 = .ok (.aload_n 0, 1) := of_decide_eq_true (List.all_eq_true.mp dsJ0_indexOf_7cf53_0_ok (13, (.aload_n 0, 1)) (List.mem_of_getElem? (i := 7) rfl))
theorem dJ0_indexOf_7cf53_14 : decode cJ0_indexOf_7cf53 14 = .ok (.invokevirtual 505, 3) := of_decide_eq_true (List.all_eq_true.mp dsJ0_indexOf_7cf53_0_ok (14, (.invokevirtual 505, 3)) (List.mem_of_getElem? (i := 8) rfl))
theorem dJ0_indexOf_7cf53_17 : decode cJ0_indexOf_7cf53 17 = .ok (.invokestatic 637, 3) := of_decide_eq_true (List.all_eq_true.mp dsJ0_indexOf_7cf53_0_ok (17, (.invokestatic 637, 3)) (List.mem_of_getElem? (i := 9) rfl))
theorem dJ0_indexOf_7cf53_20 : decode cJ0_indexOf_7cf53 20 = .ok (.goto 16, 3) := of_decide_eq_true (List.all_eq_true.mp dsJ0_indexOf_7cf53_0_ok (20, (.goto 16, 3)) (List.mem_of_getElem? (i := 10) rfl))
theorem dJ0_indexOf_7cf53_23 : decode cJ0_indexOf_7cf53 23 = .ok (.aload_n 0, 1) := of_decide_eq_true (List.all_eq_true.mp dsJ0_indexOf_7cf53_0_ok (23, (.aload_n 0, 1)) (List.mem_of_getElem? (i := 11) rfl))
theorem dJ0_indexOf_7cf53_24 : decode cJ0_indexOf_7cf53 24 = .ok (.getfield 9, 3) := of_decide_eq_true (List.all_eq_true.mp dsJ0_indexOf_7cf53_0_ok (24, (.getfield 9, 3)) (List.mem_of_getElem? (i := 12) rfl))
theorem dJ0_indexOf_7cf53_27 : decode cJ0_indexOf_7cf53 27 = .ok (.iload_n 1, 1) := of_decide_eq_true (List.all_eq_true.mp dsJ0_indexOf_7cf53_0_ok (27, (.iload_n 1, 1)) (List.mem_of_getElem? (i := 13) rfl))
theorem dJ0_indexOf_7cf53_28 : decode cJ0_indexOf_7cf53 28 = .ok (.iload_n 2, 1) := of_decide_eq_true (List.all_eq_true.mp dsJ0_indexOf_7cf53_0_ok (28, (.iload_n 2, 1)) (List.mem_of_getElem? (i := 14) rfl))
theorem dJ0_indexOf_7cf53_29 : decode cJ0_indexOf_7cf53 29 = .ok (.aload_n 0, 1) := of_decide_eq_true (List.all_eq_true.mp dsJ0_indexOf_7cf53_0_ok (29, (.aload_n 0, 1)) (List.mem_of_getElem? (i := 15) rfl))
theorem dJ0_indexOf_7cf53_30 : decode cJ0_indexOf_7cf53 30 = .ok (.invokevirtual 505, 3) := of_decide_eq_true (List.all_eq_true.mp dsJ0_indexOf_7cf53_0_ok (30, (.invokevirtual 505, 3)) (List.mem_of_getElem? (i := 16) rfl))
theorem dJ0_indexOf_7cf53_33 : decode cJ0_indexOf_7cf53 33 = .ok (.invokestatic 640, 3) := of_decide_eq_true (List.all_eq_true.mp dsJ0_indexOf_7cf53_0_ok (33, (.invokestatic 640, 3)) (List.mem_of_getElem? (i := 17) rfl))
theorem dJ0_indexOf_7cf53_36 : decode cJ0_indexOf_7cf53 36 = .ok (.ireturn, 1) := of_decide_eq_true (List.all_eq_true.mp dsJ0_indexOf_7cf53_0_ok (36, (.ireturn, 1)) (List.mem_of_getElem? (i := 18) rfl))
def fJ0_indexOf_7cf53_s0 (N : Nat)   (p1 : Int32) (p2 : Int32) : Option (Int32) :=
  (xq_bd (fJ0_length_8abf5_s0 N) fun r_3 => (xq_bd (fJ1_indexOf_4cfef_s0 N p1 p2 r_3) fun r_5 => some r_5))
set_option maxHeartbeats 4000000 in
set_option maxRecDepth 100000 in
theorem kJ0_indexOf_7cf53_s0 (l : Launch) (dC : Nat → ClassId) (dI : Nat → Nat → Nat) (cI cB cJ cZ cM : ClassId) (z : Nat) (ad : Nat → Nat) (N : Nat) (p1 : Int32) (p2 : Int32) {r0 : Int32} (hf : fJ0_indexOf_7cf53_s0 N p1 p2 = some r0) : xq_Ct l yJ0_indexOf_7cf53 wsJ0_indexOf_7cf53 { frames := 2, cells := 0, slots := 0, locals := 48 } (dC, dI) vwCl (xq_tys cI cB cJ cZ cM) z ad [.ref (ad 0), .int p1, .int p2] [] [] (some (.int r0)) := by
  intro sz
  refine xq_ofW (cc := cJ0_indexOf_7cf53) (maxL := 3) (ret := (some .int)) (by decide +kernel) rfl ?_
  intro p e s m args below meth c s₁ B hml hv
  obtain ⟨rfl, hsz, hP, hK, hD0, hE, hz⟩ := hv
  have hx := B.exec
  have hb := B.bytes
  have hr := B.returns
  have hts := atoms_spec (ws := wsJ0_indexOf_7cf53) B.pre
  have hown : s.vm.findClass RJ0 = some m.cls := findClass_of_methodNamed B.named
  have hlocks := B.notSynchronized
  subst hsz
  have hD := hD0.self (sz := s.heap.size)
  have hN := xq_Env.of hE hz hD0
  generalize hAe : va_A [] s.heap.size = A at hD hN ⊢
  have hA : ∀ q : Nat, s.heap.size ≤ q → A q := fun q h => by rw [← hAe]; exact Or.inr h
  clear hAe hD0
  have hS : va_S A s.heap s.heap [] := va_S.rf
  have hl := lv_entry ([.ref (ad 0), .int p1, .int p2]) (n := 3) (Nat.le_of_ble_eq_true rfl)
  rw [lg_entry_eq]
  generalize (lg_sl ([.ref (ad 0), .int p1, .int p2]) ++ List.replicate (3 - (lg_sl ([.ref (ad 0), .int p1, .int p2])).length) Slot.unset).toArray = ls at hl ⊢
  have hl : lv_has ls 3 [(0, .ref (ad 0)), (1, .int p1), (2, .int p2)] := hl
  have hw0 := hts (.fieldLink RJ0 9 "java/lang/String" "value" "[B") (by decide +kernel)
  unfold fJ0_indexOf_7cf53_s0 at hf
  refine lv_aload_n hx hb dJ0_indexOf_7cf53_0 rfl (lv_at hl 0 rfl) ?_
  refine xq_callVS (As := []) (rest := []) ⟨hx, hb, hml, hown, hts⟩ (kJ0_isLatin1_aae02_s0 l dC dI cI cB cJ cZ cM z ad N (r0 := 1) rfl) (cwV 0 hts gJ0_indexOf_7cf53_J0_isLatin1_aae02 rfl rfl rfl (by decide +kernel) ⟨Nat.le_of_ble_eq_true rfl, Nat.le_of_ble_eq_true rfl⟩) hN hK hP hD hS hA [] (by decide) rfl rfl (vk_recv (hN.1.2.2.1.narrow hN.2.2) (i := 0) (by decide) hS) rfl hl.1 rfl (Nat.le_of_ble_eq_true rfl) dJ0_indexOf_7cf53_1 ⟨Nat.zero_le _, Nat.zero_le _⟩ (fun H locs hP hD hS => ?_)
  have hP : va_P (dC, dI) vwCl [] H := hP
  have hD : va_D A [] := hD
  refine W.eq (g2 := F0 m 4 ls [.int 1]) rfl ?_
  refine lv_if_eq (tgt := 23) hx hb dJ0_indexOf_7cf53_4 (by decide) (fun c_ => absurd c_ (by decide)) (fun _ => ?_)
  refine lv_aload_n hx hb dJ0_indexOf_7cf53_7 rfl (lv_at hl 0 rfl) ?_
  refine vk_getf (v := .ref (ad 2)) hx hb ((hN.1.2.2.1.narrow hN.2.2).1 0 (by decide)).2.2.1 hS hown hw0 (fun _ h9 => h9) dJ0_indexOf_7cf53_8 ?_
  refine lv_iload_n hx hb dJ0_indexOf_7cf53_11 rfl (lv_at hl 1 rfl) ?_
  refine lv_iload_n hx hb dJ0_indexOf_7cf53_12 rfl (lv_at hl 2 rfl) ?_
  refine lv_aload_n hx hb dJ0_indexOf_7cf53_13 rfl (lv_at hl 0 rfl) ?_
  obtain ⟨r_3, h_4, hf⟩ := xq_bd_some hf
  refine xq_callVS (As := []) (rest := [.int p2, .int p1, .ref (ad 2)]) ⟨hx, hb, hml, hown, hts⟩ (kJ0_length_8abf5_s0 l dC dI cI cB cJ cZ cM z ad N h_4) (cwV 0 hts gJ0_indexOf_7cf53_J0_length_8abf5 rfl rfl rfl (by decide +kernel) ⟨Nat.le_of_ble_eq_true rfl, Nat.le_of_ble_eq_true rfl⟩) hN hK hP hD hS hA [] (by decide) rfl rfl (vk_recv (hN.1.2.2.1.narrow hN.2.2) (i := 0) (by decide) hS) rfl hl.1 rfl (Nat.le_of_ble_eq_true rfl) dJ0_indexOf_7cf53_14 ⟨Nat.zero_le _, Nat.zero_le _⟩ (fun H locs hP hD hS => ?_)
  have hP : va_P (dC, dI) vwCl [] H := hP
  have hD : va_D A [] := hD
  refine W.eq (g2 := F0 m 17 ls [.int r_3, .int p2, .int p1, .ref (ad 2)]) rfl ?_
  obtain ⟨r_5, h_6, hf⟩ := xq_bd_some hf
  refine xq_callS (As := [.ref (ad 2), .int p1, .int p2, .int r_3]) (rest := []) ⟨hx, hb, hml, hown, hts⟩ (kJ1_indexOf_4cfef_s0 l dC dI cI cB cJ cZ cM z ad N p1 p2 r_3 h_6) (va_cwS 4 hts gJ0_indexOf_7cf53_J1_indexOf_4cfef rfl rfl rfl (by decide +kernel) ⟨Nat.le_of_ble_eq_true rfl, Nat.le_of_ble_eq_true rfl⟩) hN hK hP hD hS hA [] (by decide) rfl rfl rfl hl.1 rfl (Nat.le_of_ble_eq_true rfl) dJ0_indexOf_7cf53_17 ⟨Nat.zero_le _, Nat.zero_le _⟩ (fun H locs hP hD hS => ?_)
  have hP : va_P (dC, dI) vwCl [] H := hP
  have hD : va_D A [] := hD
  refine W.eq (g2 := F0 m 20 ls [.int r_5]) rfl ?_
  refine lv_goto (tgt := 36) hx hb dJ0_indexOf_7cf53_20 (by decide) ?_
  cases hf
  exact xq_iret hx hb hr hlocks hK hP hD hS dJ0_indexOf_7cf53_36
set_option maxRecDepth 20000 in
theorem ggJ0_indexOf_0f7a4_J0_indexOf_7cf53 : GoodIn wsJ0_indexOf_0f7a4 wsJ0_indexOf_7cf53 := goodIn_r _ [5, 6, 7, 8, 9, 4, 10, 11, 12, 13, 14, 15, 16, 17, 18, 19, 20, 21, 22, 23, 24, 25, 26, 27, 28, 29, 30, 31, 32, 33, 34, 35, 36, 37, 38, 39, 40, 41, 42, 43, 44, 45, 46, 47, 48, 49, 50, 51, 52, 53, 54, 55, 56, 57, 58, 59, 60, 61, 62, 63, 64, 65, 66, 67, 68, 69, 70, 71, 72, 73, 74, 75, 76, 77, 78, 79, 80, 81, 82, 83, 84, 85] rfl (by decide +kernel)
set_option maxRecDepth 20000 in
theorem gJ0_indexOf_0f7a4_J0_indexOf_7cf53 : GoodIn wsJ0_indexOf_0f7a4 (wsV RJ0 633 RJ0 yJ0_indexOf_7cf53 wsJ0_indexOf_7cf53) := goodIn_app (goodIn_of _ (by decide +kernel)) ggJ0_indexOf_0f7a4_J0_indexOf_7cf53
def dsJ0_indexOf_0f7a4_0 : List (Nat × Instr × Nat) := [(0, (.aload_n 0, 1)), (1, (.iload_n 1, 1)), (2, (.iconst 0, 1)), (3, (.invokevirtual 633, 3)), (6, (.ireturn, 1))]
theorem dsJ0_indexOf_0f7a4_0_ok : (dsJ0_indexOf_0f7a4_0.all fun q => decide (decode cJ0_indexOf_0f7a4 q.1 = .ok q.2)) = true := by decide +kernel
theorem dJ0_indexOf_0f7a4_0 : decode cJ0_indexOf_0f7a4 0 = .ok (.aload_n 0, 1) := of_decide_eq_true (List.all_eq_true.mp dsJ0_indexOf_0f7a4_0_ok (0, (.aload_n 0, 1)) (List.mem_of_getElem? (i := 0) rfl))
theorem dJ0_indexOf_0f7a4_1 : decode cJ0_indexOf_0f7a4 1 = .ok (.iload_n 1, 1) := of_decide_eq_true (List.all_eq_true.mp dsJ0_indexOf_0f7a4_0_ok (1, (.iload_n 1, 1)) (List.mem_of_getElem? (i := 1) rfl))
theorem dJ0_indexOf_0f7a4_2 : decode cJ0_indexOf_0f7a4 2 = .ok (.iconst 0, 1) := of_decide_eq_true (List.all_eq_true.mp dsJ0_indexOf_0f7a4_0_ok (2, (.iconst 0, 1)) (List.mem_of_getElem? (i := 2) rfl))
theorem dJ0_indexOf_0f7a4_3 : decode cJ0_indexOf_0f7a4 3 = .ok (.invokevirtual 633, 3) := of_decide_eq_true (List.all_eq_true.mp dsJ0_indexOf_0f7a4_0_ok (3, (.invokevirtual 633, 3)) (List.mem_of_getElem? (i := 3) rfl))
theorem dJ0_indexOf_0f7a4_6 : decode cJ0_indexOf_0f7a4 6 = .ok (.ireturn, 1) := of_decide_eq_true (List.all_eq_true.mp dsJ0_indexOf_0f7a4_0_ok (6, (.ireturn, 1)) (List.mem_of_getElem? (i := 4) rfl))
def fJ0_indexOf_0f7a4_s0 (N : Nat)   (p1 : Int32) : Option (Int32) :=
  (xq_bd (fJ0_indexOf_7cf53_s0 N p1 0) fun r_1 => some r_1)
set_option maxHeartbeats 4000000 in
set_option maxRecDepth 100000 in
theorem kJ0_indexOf_0f7a4_s0 (l : Launch) (dC : Nat → ClassId) (dI : Nat → Nat → Nat) (cI cB cJ cZ cM : ClassId) (z : Nat) (ad : Nat → Nat) (N : Nat) (p1 : Int32) {r0 : Int32} (hf : fJ0_indexOf_0f7a4_s0 N p1 = some r0) : xq_Ct l yJ0_indexOf_0f7a4 wsJ0_indexOf_0f7a4 { frames := 3, cells := 0, slots := 0, locals := 70 } (dC, dI) vwCl (xq_tys cI cB cJ cZ cM) z ad [.ref (ad 0), .int p1] [] [] (some (.int r0)) := by
  intro sz
  refine xq_ofW (cc := cJ0_indexOf_0f7a4) (maxL := 2) (ret := (some .int)) (by decide +kernel) rfl ?_
  intro p e s m args below meth c s₁ B hml hv
  obtain ⟨rfl, hsz, hP, hK, hD0, hE, hz⟩ := hv
  have hx := B.exec
  have hb := B.bytes
  have hr := B.returns
  have hts := atoms_spec (ws := wsJ0_indexOf_0f7a4) B.pre
  have hown : s.vm.findClass RJ0 = some m.cls := findClass_of_methodNamed B.named
  have hlocks := B.notSynchronized
  subst hsz
  have hD := hD0.self (sz := s.heap.size)
  have hN := xq_Env.of hE hz hD0
  generalize hAe : va_A [] s.heap.size = A at hD hN ⊢
  have hA : ∀ q : Nat, s.heap.size ≤ q → A q := fun q h => by rw [← hAe]; exact Or.inr h
  clear hAe hD0
  have hS : va_S A s.heap s.heap [] := va_S.rf
  have hl := lv_entry ([.ref (ad 0), .int p1]) (n := 2) (Nat.le_of_ble_eq_true rfl)
  rw [lg_entry_eq]
  generalize (lg_sl ([.ref (ad 0), .int p1]) ++ List.replicate (2 - (lg_sl ([.ref (ad 0), .int p1])).length) Slot.unset).toArray = ls at hl ⊢
  have hl : lv_has ls 2 [(0, .ref (ad 0)), (1, .int p1)] := hl
  unfold fJ0_indexOf_0f7a4_s0 at hf
  refine lv_aload_n hx hb dJ0_indexOf_0f7a4_0 rfl (lv_at hl 0 rfl) ?_
  refine lv_iload_n hx hb dJ0_indexOf_0f7a4_1 rfl (lv_at hl 1 rfl) ?_
  refine lv_iconst (v := 0) hx hb dJ0_indexOf_0f7a4_2 (by decide) ?_
  obtain ⟨r_1, h_2, hf⟩ := xq_bd_some hf
  refine xq_callVS (As := [.int p1, .int 0]) (rest := []) ⟨hx, hb, hml, hown, hts⟩ (kJ0_indexOf_7cf53_s0 l dC dI cI cB cJ cZ cM z ad N p1 0 h_2) (cwV 2 hts gJ0_indexOf_0f7a4_J0_indexOf_7cf53 rfl rfl rfl (by decide +kernel) ⟨Nat.le_of_ble_eq_true rfl, Nat.le_of_ble_eq_true rfl⟩) hN hK hP hD hS hA [] (by decide) rfl rfl (vk_recv (hN.1.2.2.1.narrow hN.2.2) (i := 0) (by decide) hS) rfl hl.1 rfl (Nat.le_of_ble_eq_true rfl) dJ0_indexOf_0f7a4_3 ⟨Nat.zero_le _, Nat.zero_le _⟩ (fun H locs hP hD hS => ?_)
  have hP : va_P (dC, dI) vwCl [] H := hP
  have hD : va_D A [] := hD
  refine W.eq (g2 := F0 m 6 ls [.int r_1]) rfl ?_
  cases hf
  exact xq_iret hx hb hr hlocks hK hP hD hS dJ0_indexOf_0f7a4_6
set_option maxRecDepth 20000 in
theorem ggJ1_charAt_3b067_J0_checkIndex_df160 : GoodIn wsJ1_charAt_3b067 wsJ0_checkIndex_df160 := goodIn_r _ [4, 5, 6, 7, 8, 9] rfl (by decide +kernel)
set_option maxRecDepth 20000 in
theorem gJ1_charAt_3b067_J0_checkIndex_df160 : GoodIn wsJ1_charAt_3b067 (va_wsS RJ1 9 yJ0_checkIndex_df160 wsJ0_checkIndex_df160) := goodIn_app (goodIn_of _ (by decide +kernel)) ggJ1_charAt_3b067_J0_checkIndex_df160
def dsJ1_charAt_3b067_0 : List (Nat × Instr × Nat) := [(0, (.iload_n 1, 1)), (1, (.aload_n 0, 1)), (2, (.arraylength, 1)), (3, (.invokestatic 9, 3)), (6, (.aload_n 0, 1)), (7, (.iload_n 1, 1)), (8, (.baload, 1)), (9, (.sipush 255, 3)), (12, (.iand, 1)), (13, (.i2c, 1)), (14, (.ireturn, 1))]
theorem dsJ1_charAt_3b067_0_ok : (dsJ1_charAt_3b067_0.all fun q => decide (decode cJ1_charAt_3b067 q.1 = .ok q.2)) = true := by decide +kernel
theorem dJ1_charAt_3b067_0 : decode cJ1_charAt_3b067 0 = .ok (.iload_n 1, 1) := of_decide_eq_true (List.all_eq_true.mp dsJ1_charAt_3b067_0_ok (0, (.iload_n 1, 1)) (List.mem_of_getElem? (i := 0) rfl))
theorem dJ1_charAt_3b067_1 : decode cJ1_charAt_3b067 1 = .ok (.aload_n 0, 1) := of_decide_eq_true (List.all_eq_true.mp dsJ1_charAt_3b067_0_ok (1, (.aload_n 0, 1)) (List.mem_of_getElem? (i := 1) rfl))
theorem dJ1_charAt_3b067_2 : decode cJ1_charAt_3b067 2 = .ok (.arraylength, 1) := of_decide_eq_true (List.all_eq_true.mp dsJ1_charAt_3b067_0_ok (2, (.arraylength, 1)) (List.mem_of_getElem? (i := 2) rfl))
theorem dJ1_charAt_3b067_3 : decode cJ1_charAt_3b067 3 = .ok (.invokestatic 9, 3) := of_decide_eq_true (List.all_eq_true.mp dsJ1_charAt_3b067_0_ok (3, (.invokestatic 9, 3)) (List.mem_of_getElem? (i := 3) rfl))
theorem dJ1_charAt_3b067_6 : decode cJ1_charAt_3b067 6 = .ok (.aload_n 0, 1) := of_decide_eq_true (List.all_eq_true.mp dsJ1_charAt_3b067_0_ok (6, (.aload_n 0, 1)) (List.mem_of_getElem? (i := 4) rfl))
theorem dJ1_charAt_3b067_7 : decode cJ1_charAt_3b067 7 = .ok (.iload_n 1, 1) := of_decide_eq_true (List.all_eq_true.mp dsJ1_charAt_3b067_0_ok (7, (.iload_n 1, 1)) (List.mem_of_getElem? (i := 5) rfl))
theorem dJ1_charAt_3b067_8 : decode cJ1_charAt_3b067 8 = .ok (.baload, 1) := of_decide_eq_true (List.all_eq_true.mp dsJ1_charAt_3b067_0_ok (8, (.baload, 1)) (List.mem_of_getElem? (i := 6) rfl))
theorem dJ1_charAt_3b067_9 : decode cJ1_charAt_3b067 9 = .ok (.sipush 255, 3) := of_decide_eq_true (List.all_eq_true.mp dsJ1_charAt_3b067_0_ok (9, (.sipush 255, 3)) (List.mem_of_getElem? (i := 7) rfl))
theorem dJ1_charAt_3b067_12 : decode cJ1_charAt_3b067 12 = .ok (.iand, 1) := of_decide_eq_true (List.all_eq_true.mp dsJ1_charAt_3b067_0_ok (12, (.iand, 1)) (List.mem_of_getElem? (i := 8) rfl))
theorem dJ1_charAt_3b067_13 : decode cJ1_charAt_3b067 13 = .ok (.i2c, 1) := of_decide_eq_true (List.all_eq_true.mp dsJ1_charAt_3b067_0_ok (13, (.i2c, 1)) (List.mem_of_getElem? (i := 9) rfl))
theorem dJ1_charAt_3b067_14 : decode cJ1_charAt_3b067 14 = .ok (.ireturn, 1) := of_decide_eq_true (List.all_eq_true.mp dsJ1_charAt_3b067_0_ok (14, (.ireturn, 1)) (List.mem_of_getElem? (i := 10) rfl))
def fJ1_charAt_3b067_s1 (N : Nat)   (p1 : Int32) : Option (Int32) :=
  (xq_bd (fJ0_checkIndex_df160 N p1 116) fun _ => (xq_bd (xq_ald 116 (xq_sb 1) p1) fun v_3 => (xq_bd (xq_cb (((v_3 &&& 255).toUInt32 % 65536).toInt32)) fun v_4 => some (((v_3 &&& 255).toUInt32 % 65536).toInt32))))
set_option maxHeartbeats 4000000 in
set_option maxRecDepth 100000 in
theorem kJ1_charAt_3b067_s1 (l : Launch) (dC : Nat → ClassId) (dI : Nat → Nat → Nat) (cI cB cJ cZ cM : ClassId) (z : Nat) (ad : Nat → Nat) (N : Nat) (p1 : Int32) {r0 : Int32} (hf : fJ1_charAt_3b067_s1 N p1 = some r0) : xq_Ct l yJ1_charAt_3b067 wsJ1_charAt_3b067 { frames := 2, cells := 0, slots := 0, locals := 43 } (dC, dI) vwCl (xq_tys cI cB cJ cZ cM) z ad [.ref (ad 3), .int p1] [] [] (some (.int r0)) := by
  intro sz
  refine xq_ofW (cc := cJ1_charAt_3b067) (maxL := 2) (ret := (some .char)) (by decide +kernel) rfl ?_
  intro p e s m args below meth c s₁ B hml hv
  obtain ⟨rfl, hsz, hP, hK, hD0, hE, hz⟩ := hv
  have hx := B.exec
  have hb := B.bytes
  have hr := B.returns
  have hts := atoms_spec (ws := wsJ1_charAt_3b067) B.pre
  have hown : s.vm.findClass RJ1 = some m.cls := findClass_of_methodNamed B.named
  have hlocks := B.notSynchronized
  subst hsz
  have hD := hD0.self (sz := s.heap.size)
  have hN := xq_Env.of hE hz hD0
  generalize hAe : va_A [] s.heap.size = A at hD hN ⊢
  have hA : ∀ q : Nat, s.heap.size ≤ q → A q := fun q h => by rw [← hAe]; exact Or.inr h
  clear hAe hD0
  have hS : va_S A s.heap s.heap [] := va_S.rf
  have hl := lv_entry ([.ref (ad 3), .int p1]) (n := 2) (Nat.le_of_ble_eq_true rfl)
  rw [lg_entry_eq]
  generalize (lg_sl ([.ref (ad 3), .int p1]) ++ List.replicate (2 - (lg_sl ([.ref (ad 3), .int p1])).length) Slot.unset).toArray = ls at hl ⊢
  have hl : lv_has ls 2 [(0, .ref (ad 3)), (1, .int p1)] := hl
  unfold fJ1_charAt_3b067_s1 at hf
  refine lv_iload_n hx hb dJ1_charAt_3b067_0 rfl (lv_at hl 1 rfl) ?_
  refine lv_aload_n hx hb dJ1_charAt_3b067_1 rfl (lv_at hl 0 rfl) ?_
  refine va_tlen hx hb ((hN.1.2.2.1.narrow hN.2.2).1 1 (by decide)).2.2.2 hS (v := 116) rfl dJ1_charAt_3b067_2 ?_
  obtain ⟨⟨⟩, h_2, hf⟩ := xq_bd_some hf
  refine xq_callS (As := [.int p1, .int 116]) (rest := []) ⟨hx, hb, hml, hown, hts⟩ (kJ0_checkIndex_df160 l dC dI cI cB cJ cZ cM z ad N p1 116 h_2) (va_cwS 2 hts gJ1_charAt_3b067_J0_checkIndex_df160 rfl rfl rfl (by decide +kernel) ⟨Nat.le_of_ble_eq_true rfl, Nat.le_of_ble_eq_true rfl⟩) hN hK hP hD hS hA [] (by decide) rfl rfl rfl hl.1 rfl (Nat.le_of_ble_eq_true rfl) dJ1_charAt_3b067_3 ⟨Nat.zero_le _, Nat.zero_le _⟩ (fun H locs hP hD hS => ?_)
  have hP : va_P (dC, dI) vwCl [] H := hP
  have hD : va_D A [] := hD
  refine W.eq (g2 := F0 m 6 ls []) rfl ?_
  refine lv_aload_n hx hb dJ1_charAt_3b067_6 rfl (lv_at hl 0 rfl) ?_
  refine lv_iload_n hx hb dJ1_charAt_3b067_7 rfl (lv_at hl 1 rfl) ?_
  refine xq_tb (n := 116) (f := xq_sb 1) hx hb ((hN.1.2.2.1.narrow hN.2.2).1 1 (by decide)).2.2.2 hS hf dJ1_charAt_3b067_8 (fun v_3 hf => ?_)
  refine lv_sipush (v := 255) hx hb dJ1_charAt_3b067_9 (by decide) ?_
  refine lv_iand hx hb dJ1_charAt_3b067_12 ?_
  refine lv_i2c (v := ((v_3 &&& 255).toUInt32 % 65536).toInt32) hx hb dJ1_charAt_3b067_13 rfl ?_
  obtain ⟨v_4, hz9, hf⟩ := xq_bd_some hf
  have hn9 := xq_cb_n hz9
  obtain rfl := xq_cb_e hz9
  cases hf
  exact xq_zret hx hb hr hn9 hlocks hK hP hD hS dJ1_charAt_3b067_14
set_option maxRecDepth 20000 in
theorem ggJ0_charAt_5068e_J0_isLatin1_aae02 : GoodIn wsJ0_charAt_5068e wsJ0_isLatin1_aae02 := goodIn_r _ [6, 7, 8] rfl (by decide +kernel)
set_option maxRecDepth 20000 in
theorem gJ0_charAt_5068e_J0_isLatin1_aae02 : GoodIn wsJ0_charAt_5068e (wsV RJ0 492 RJ0 yJ0_isLatin1_aae02 wsJ0_isLatin1_aae02) := goodIn_app (goodIn_of _ (by decide +kernel)) ggJ0_charAt_5068e_J0_isLatin1_aae02
set_option maxRecDepth 20000 in
theorem ggJ0_charAt_5068e_J1_charAt_3b067 : GoodIn wsJ0_charAt_5068e wsJ1_charAt_3b067 := goodIn_r _ [12, 13, 14, 5, 15, 16, 17, 18, 19, 20] rfl (by decide +kernel)
set_option maxRecDepth 20000 in
theorem gJ0_charAt_5068e_J1_charAt_3b067 : GoodIn wsJ0_charAt_5068e (va_wsS RJ0 495 yJ1_charAt_3b067 wsJ1_charAt_3b067) := goodIn_app (goodIn_of _ (by decide +kernel)) ggJ0_charAt_5068e_J1_charAt_3b067
set_option maxRecDepth 20000 in
theorem ggJ0_charAt_5068e_J2_charAt_3b067 : GoodIn wsJ0_charAt_5068e wsJ2_charAt_3b067 := goodIn_r _ [24, 25, 26, 23, 27, 28, 29, 30, 31, 14, 5, 15, 16, 17, 18, 19, 20, 32, 33, 34, 35, 36, 37] rfl (by decide +kernel)
set_option maxRecDepth 20000 in
theorem gJ0_charAt_5068e_J2_charAt_3b067 : GoodIn wsJ0_charAt_5068e (va_wsS RJ0 498 yJ2_charAt_3b067 wsJ2_charAt_3b067) := goodIn_app (goodIn_of _ (by decide +kernel)) ggJ0_charAt_5068e_J2_charAt_3b067
def dsJ0_charAt_5068e_0 : List (Nat × Instr × Nat) := [(0, (.aload_n 0, 1)), (1, (.invokevirtual 492, 3)), (4, (.ifCond .eq 12, 3)), (7, (.aload_n 0, 1)), (8, (.getfield 9, 3)), (11, (.iload_n 1, 1)), (12, (.invokestatic 495, 3)), (15, (.ireturn, 1)), (16, (.aload_n 0, 1)), (17, (.getfield 9, 3)), (20, (.iload_n 1, 1)), (21, (.invokestatic 498, 3)), (24, (.ireturn, 1))]
theorem dsJ0_charAt_5068e_0_ok : (dsJ0_charAt_5068e_0.all fun q => decide (decode cJ0_charAt_5068e q.1 = .ok q.2)) = true := by decide +kernel
theorem dJ0_charAt_5068e_0 : decode cJ0_charAt_5068e 0 = .ok (.aload_n 0, 1) := of_decide_eq_true (List.all_eq_true.mp dsJ0_charAt_5068e_0_ok (0, (.aload_n 0, 1)) (List.mem_of_getElem? (i := 0) rfl))
theorem dJ0_charAt_5068e_1 : decode cJ0_charAt_5068e 1 = .ok (.invokevirtual 492, 3) := of_decide_eq_true (List.all_eq_true.mp dsJ0_charAt_5068e_0_ok (1, (.invokevirtual 492, 3)) (List.mem_of_getElem? (i := 1) rfl))
theorem dJ0_charAt_5068e_4 : decode cJ0_charAt_5068e 4 = .ok (.ifCond .eq 12, 3) := of_decide_eq_true (List.all_eq_true.mp dsJ0_charAt_5068e_0_ok (4, (.ifCond .eq 12, 3)) (List.mem_of_getElem? (i := 2) rfl))
theorem dJ0_charAt_5068e_7 : decode cJ0_charAt_5068e 7 = .ok (.aload_n 0, 1) := of_decide_eq_true (List.all_eq_true.mp dsJ0_charAt_5068e_0_ok (7, (.aload_n 0, 1)) (List.mem_of_getElem? (i := 3) rfl))
theorem dJ0_charAt_5068e_8 : decode cJ0_charAt_5068e 8 = .ok (.getfield 9, 3) := of_decide_eq_true (List.all_eq_true.mp dsJ0_charAt_5068e_0_ok (8, (.getfield 9, 3)) (List.mem_of_getElem? (i := 4) rfl))
theorem dJ0_charAt_5068e_11 : decode cJ0_charAt_5068e 11 = .ok (.iload_n 1, 1) := of_decide_eq_true (List.all_eq_true.mp dsJ0_charAt_5068e_0_ok (11, (.iload_n 1, 1)) (List.mem_of_getElem? (i := 5) rfl))
theorem dJ0_charAt_5068e_12 : decode cJ0_charAt_5068e 12 = .ok (.invokestatic 495, 3) := of_decide_eq_true (List.all_eq_true.mp dsJ0_charAt_5068e_0_ok (12, (.invokestatic 495, 3)) (List.mem_of_getElem? (i := 6) rfl))
theorem dJ0_charAt_5068e_15 : decode cJ0_charAt_5068e 15 = .ok (.ireturn, 1) := of_decide_eq_true (List.all_eq_true.mp dsJ0_charAt_5068e_0_ok (15, (.ireturn, 1)) (List.mem_of_getElem? (i := 7) rfl))
theorem dJ0_charAt_5068e_16 : decode cJ0_charAt_5068e 16 = .ok (.aload_n 0, 1) := of_decide_eq_true (List.all_eq_true.mp dsJ0_charAt_5068e_0_ok (16, (.aload_n 0, 1)) (List.mem_of_getElem? (i := 8) rfl))
theorem dJ0_charAt_5068e_17 : decode cJ0_charAt_5068e 17 = .ok (.getfield 9, 3) := of_decide_eq_true (List.all_eq_true.mp dsJ0_charAt_5068e_0_ok (17, (.getfield 9, 3)) (List.mem_of_getElem? (i := 9) rfl))
theorem dJ0_charAt_5068e_20 : decode cJ0_charAt_5068e 20 = .ok (.iload_n 1, 1) := of_decide_eq_true (List.all_eq_true.mp dsJ0_charAt_5068e_0_ok (20, (.iload_n 1, 1)) (List.mem_of_getElem? (i := 10) rfl))
theorem dJ0_charAt_5068e_21 : decode cJ0_charAt_5068e 21 = .ok (.invokestatic 498, 3) := of_decide_eq_true (List.all_eq_true.mp dsJ0_charAt_5068e_0_ok (21, (.invokestatic 498, 3)) (List.mem_of_getElem? (i := 11) rfl))
theorem dJ0_charAt_5068e_24 : decode cJ0_charAt_5068e 24 = .ok (.ireturn, 1) := of_decide_eq_true (List.all_eq_true.mp dsJ0_charAt_5068e_0_ok (24, (.ireturn, 1)) (List.mem_of_getElem? (i := 12) rfl))
def fJ0_charAt_5068e_s1 (N : Nat)   (p1 : Int32) : Option (Int32) :=
  (xq_bd (fJ1_charAt_3b067_s1 N p1) fun r_3 => (xq_bd (xq_cb r_3) fun v_5 => some r_3))
set_option maxHeartbeats 4000000 in
set_option maxRecDepth 100000 in
theorem kJ0_charAt_5068e_s1 (l : Launch) (dC : Nat → ClassId) (dI : Nat → Nat → Nat) (cI cB cJ cZ cM : ClassId) (z : Nat) (ad : Nat → Nat) (N : Nat) (p1 : Int32) {r0 : Int32} (hf : fJ0_charAt_5068e_s1 N p1 = some r0) : xq_Ct l yJ0_charAt_5068e wsJ0_charAt_5068e { frames := 3, cells := 0, slots := 0, locals := 64 } (dC, dI) vwCl (xq_tys cI cB cJ cZ cM) z ad [.ref (ad 1), .int p1] [] [] (some (.int r0)) := by
  intro sz
  refine xq_ofW (cc := cJ0_charAt_5068e) (maxL := 2) (ret := (some .char)) (by decide +kernel) rfl ?_
  intro p e s m args below meth c s₁ B hml hv
  obtain ⟨rfl, hsz, hP, hK, hD0, hE, hz⟩ := hv
  have hx := B.exec
  have hb := B.bytes
  have hr := B.returns
  have hts := atoms_spec (ws := wsJ0_charAt_5068e) B.pre
  have hown : s.vm.findClass RJ0 = some m.cls := findClass_of_methodNamed B.named
  have hlocks := B.notSynchronized
  subst hsz
  have hD := hD0.self (sz := s.heap.size)
  have hN := xq_Env.of hE hz hD0
  generalize hAe : va_A [] s.heap.size = A at hD hN ⊢
  have hA : ∀ q : Nat, s.heap.size ≤ q → A q := fun q h => by rw [← hAe]; exact Or.inr h
  clear hAe hD0
  have hS : va_S A s.heap s.heap [] := va_S.rf
  have hl := lv_entry ([.ref (ad 1), .int p1]) (n := 2) (Nat.le_of_ble_eq_true rfl)
  rw [lg_entry_eq]
  generalize (lg_sl ([.ref (ad 1), .int p1]) ++ List.replicate (2 - (lg_sl ([.ref (ad 1), .int p1])).length) Slot.unset).toArray = ls at hl ⊢
  have hl : lv_has ls 2 [(0, .ref (ad 1)), (1, .int p1)] := hl
  have hw0 := hts (.fieldLink RJ0 9 "java/lang/String" "value" "[B") (by decide +kernel)
  unfold fJ0_charAt_5068e_s1 at hf
  refine lv_aload_n hx hb dJ0_charAt_5068e_0 rfl (lv_at hl 0 rfl) ?_
  refine xq_callVS (As := []) (rest := []) ⟨hx, hb, hml, hown, hts⟩ (kJ0_isLatin1_aae02_s1 l dC dI cI cB cJ cZ cM z ad N (r0 := 1) rfl) (cwV 0 hts gJ0_charAt_5068e_J0_isLatin1_aae02 rfl rfl rfl (by decide +kernel) ⟨Nat.le_of_ble_eq_true rfl, Nat.le_of_ble_eq_true rfl⟩) hN hK hP hD hS hA [] (by decide) rfl rfl (vk_recv (hN.1.2.2.1.narrow hN.2.2) (i := 1) (by decide) hS) rfl hl.1 rfl (Nat.le_of_ble_eq_true rfl) dJ0_charAt_5068e_1 ⟨Nat.zero_le _, Nat.zero_le _⟩ (fun H locs hP hD hS => ?_)
  have hP : va_P (dC, dI) vwCl [] H := hP
  have hD : va_D A [] := hD
  refine W.eq (g2 := F0 m 4 ls [.int 1]) rfl ?_
  refine lv_if_eq (tgt := 16) hx hb dJ0_charAt_5068e_4 (by decide) (fun c_ => absurd c_ (by decide)) (fun _ => ?_)
  refine lv_aload_n hx hb dJ0_charAt_5068e_7 rfl (lv_at hl 0 rfl) ?_
  refine vk_getf (v := .ref (ad 3)) hx hb ((hN.1.2.2.1.narrow hN.2.2).1 1 (by decide)).2.2.1 hS hown hw0 (fun _ h9 => h9) dJ0_charAt_5068e_8 ?_
  refine lv_iload_n hx hb dJ0_charAt_5068e_11 rfl (lv_at hl 1 rfl) ?_
  obtain ⟨r_3, h_4, hf⟩ := xq_bd_some hf
  refine xq_callS (As := [.ref (ad 3), .int p1]) (rest := []) ⟨hx, hb, hml, hown, hts⟩ (kJ1_charAt_3b067_s1 l dC dI cI cB cJ cZ cM z ad N p1 h_4) (va_cwS 2 hts gJ0_charAt_5068e_J1_charAt_3b067 rfl rfl rfl (by decide +kernel) ⟨Nat.le_of_ble_eq_true rfl, Nat.le_of_ble_eq_true rfl⟩) hN hK hP hD hS hA [] (by decide) rfl rfl rfl hl.1 rfl (Nat.le_of_ble_eq_true rfl) dJ0_charAt_5068e_12 ⟨Nat.zero_le _, Nat.zero_le _⟩ (fun H locs hP hD hS => ?_)
  have hP : va_P (dC, dI) vwCl [] H := hP
  have hD : va_D A [] := hD
  refine W.eq (g2 := F0 m 15 ls [.int r_3]) rfl ?_
  obtain ⟨v_5, hz9, hf⟩ := xq_bd_some hf
  have hn9 := xq_cb_n hz9
  obtain rfl := xq_cb_e hz9
  cases hf
  exact xq_zret hx hb hr hn9 hlocks hK hP hD hS dJ0_charAt_5068e_15
