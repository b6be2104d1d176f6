/-! cases of the law's switch -/
section
variable {p : Program} {l : Launch} {e : Env} {s : State} {m : MethodId} {below : List Frame} {meth : Method} {c : Code} {b L : Nat} {xs : Nat → Int32} {dC : Nat → ClassId} {dI : Nat → Nat → Nat} {cI cB cJ cZ cM : ClassId} {ad : Nat → Nat} {x mm t : Nat} {H : Heap} {locs : List Loc} {cells slots : Nat} {ls : Array Slot} {i : Int32} (N : Nat)
set_option maxHeartbeats 4000000 in
set_option maxRecDepth 100000 in
theorem lwo_round (h5 : 5000 ≤ N) (C0 : lw_At p s m meth c b L xs) (hN : xq_Env s.heap.size ad (fun q : Nat => s.heap.size ≤ q) s) (hK : va_K (dC, dI) vwCl (xq_tys cI cB cJ cZ cM) s) (hSt : lw_St dC dI cI cB cJ cZ cM s x mm t H locs) (hl : lv_has ls 4 [(3, .int i), (2, .ref mm), (1, .ref x), (0, .ref b)]) (hv1 : vp_in (i + 1) L) (hf : cells ≤ room_1.cells ∧ slots ≤ room_1.slots) (kk : ∀ (t' : Nat) (H' : Heap) (locs' : List Loc), t' ≤ t + 20 → lw_St dC dI cI cB cJ cZ cM s x mm t' H' locs' → W p l e room_1 s m #[Value.ref b] below meth c H' locs' cells slots (lw_Z below #[Value.ref b] s) (F0 m 1029 ls [])) : W p l e room_1 s m #[Value.ref b] below meth c H locs cells slots (lw_Z below #[Value.ref b] s) (F0 m 480 ls []) := by
  obtain ⟨hx, hb, hr, hml, hown, hts, hX, hbl, hlocks, hgv⟩ := C0
  have hown : s.vm.findClass RL = some m.cls := hown
  obtain ⟨R, S, Rm, C, P, Q, V, n, I, J, A, B, hR, hP, hD, hS⟩ := hSt
  have hA : ∀ q : Nat, s.heap.size ≤ q → (fun q : Nat => s.heap.size ≤ q) q := fun _ h => h
  have hbA : ¬ (fun q : Nat => s.heap.size ≤ q) b := Nat.not_le.mpr hbl
  obtain ⟨z_a, z_c_r1, z_c_r2, z_c_r3, z_c_r4, z_c_r5, z_c_r6, z_m_r1, z_m_r2, z_m_r3, z_m_r4, z_m_r5, z_m_r6, z_m_r7, z_m_r8, z_m_r9, z_m_r10, z_m_r11, z_m_r12, hf1, hf2, hR1⟩ := x_round N h5 hR (xs (i + 1).toNatClampNeg)
  refine lv_aload_n hx hb dL_law_480 rfl (lv_at hl 2 rfl) ?_
  refine lv_aload_n hx hb dL_law_481 rfl (lv_at hl 3 rfl) ?_
  refine lv_iload_n hx hb dL_law_482 rfl (lv_at hl 0 rfl) ?_
  refine lv_iconst (v := 1) hx hb dL_law_483 (by decide) ?_
  refine lv_iadd hx hb dL_law_484 ?_
  refine va_sld hx hb hX hbl hbA hS hv1 dL_law_485 ?_
  rw [List.append_assoc] at hP hD
  refine lw_callV (As := [.int (xs (i + 1).toNatClampNeg)]) (rest := []) (ci := 11) (q0 := 0) (wa' := lw_wc cI cB x R (va_up (va_up (va_up (va_up (va_up (va_up C 22 z_c_r1) 23 z_c_r2) 24 z_c_r3) 25 z_c_r4) 20 z_c_r5) 21 z_c_r6) n) ⟨hx, hb, hml, hown, hts⟩ (kX11_round l dC dI cI cB cJ cZ cM s.heap.size ad N x (C 0) (R 0) (C 10) (R 9) (C 5) (R 2) (C 22) (R 3) (C 6) (C 23) (C 7) (C 24) (C 25) (C 4) (R 10) (C 20) (C 17) (n 0) (C 21) (C 19) (n 2) (C 15) (C 13) (C 18) (n 1) (xs (i + 1).toNatClampNeg) hf1) (cwV 1 hts lw_gX11_round rfl rfl rfl (by decide +kernel) ⟨Nat.le_of_ble_eq_true rfl, Nat.le_of_ble_eq_true rfl⟩) hN hK hP hD hS hA [0, 10, 4, 22, 5, 23, 6, 24, 25, 3, 20, 17, 21, 19, 15, 13, 18] (by decide +kernel) rfl rfl rfl rfl rfl rfl rfl hl.1 rfl (Nat.le_of_ble_eq_true rfl) dL_law_486 hf (fun H locs hP hD hS => ?_)
  rw [← List.append_assoc] at hP hD
  have hP := lw_swP hP
  have hD := lw_swD hD
  refine W.eq (g2 := F0 m 489 ls [.int z_a]) rfl ?_
  refine lv_aload_n hx hb dL_law_489 rfl (lv_at hl 1 rfl) ?_
  refine lv_aload_n hx hb dL_law_490 rfl (lv_at hl 3 rfl) ?_
  refine lv_iload_n hx hb dL_law_491 rfl (lv_at hl 0 rfl) ?_
  refine lv_iconst (v := 1) hx hb dL_law_492 (by decide) ?_
  refine lv_iadd hx hb dL_law_493 ?_
  refine va_sld hx hb hX hbl hbA hS hv1 dL_law_494 ?_
  refine lw_callV (As := [.int (xs (i + 1).toNatClampNeg)]) (rest := [.int z_a]) (ci := 12) (q0 := 0) (wa' := lw_wm cI cJ cZ mm Rm I J (va_up (va_up (va_up (va_up (va_up (va_up (va_up (va_up (va_up (va_up (va_up (A) 45 z_m_r1) 46 z_m_r2) 47 z_m_r3) 48 z_m_r4) 49 z_m_r5) 50 z_m_r6) 52 z_m_r7) 51 z_m_r8) 53 z_m_r9) 58 z_m_r10) 59 z_m_r12) (va_up (B) 57 z_m_r11)) ⟨hx, hb, hml, hown, hts⟩ (kX12_round l dC dI cI cB cJ cZ cM s.heap.size ad N mm I J Rm (A 45) (A 46) (A 47) (A 48) (A 49) (A 50) (A 52) (A 51) (A 53) (A 24) (A 58) (A 25) (B 57) (A 26) (A 27) (A 14) (A 21) (A 22) (A 18) (A 59) (A 20) (xs (i + 1).toNatClampNeg) hf2) (cwV 1 hts lw_gX12_round rfl rfl rfl (by decide +kernel) ⟨Nat.le_of_ble_eq_true rfl, Nat.le_of_ble_eq_true rfl⟩) hN hK hP hD hS hA [0, 25, 26, 27, 28, 29, 30, 32, 31, 33, 12, 35, 13, 34, 14, 15, 2, 9, 10, 6, 36, 8] (by decide +kernel) rfl rfl rfl rfl rfl rfl rfl hl.1 rfl (Nat.le_of_ble_eq_true rfl) dL_law_495 hf (fun H locs hP hD hS => ?_)
  have hP := lw_swP hP
  have hD := lw_swD hD
  refine W.eq (g2 := F0 m 498 ls [.int z_a, .int z_a]) rfl ?_
  refine lv_icmp_eq (tgt := 1029) hx hb dL_law_498 (by decide) (fun c_1 => ?_) (fun c_1 => absurd rfl c_1)
  exact kk _ _ _ (Nat.le_add_right _ _) ⟨R, S, Rm, (va_up (va_up (va_up (va_up (va_up (va_up C 22 z_c_r1) 23 z_c_r2) 24 z_c_r3) 25 z_c_r4) 20 z_c_r5) 21 z_c_r6), P, Q, V, n, I, J, (va_up (va_up (va_up (va_up (va_up (va_up (va_up (va_up (va_up (va_up (va_up (A) 45 z_m_r1) 46 z_m_r2) 47 z_m_r3) 48 z_m_r4) 49 z_m_r5) 50 z_m_r6) 52 z_m_r7) 51 z_m_r8) 53 z_m_r9) 58 z_m_r10) 59 z_m_r12), (va_up (B) 57 z_m_r11), hR1, hP, hD, hS⟩
set_option maxHeartbeats 4000000 in
set_option maxRecDepth 100000 in
theorem lwo_heard (h5 : 5000 ≤ N) (C0 : lw_At p s m meth c b L xs) (hN : xq_Env s.heap.size ad (fun q : Nat => s.heap.size ≤ q) s) (hK : va_K (dC, dI) vwCl (xq_tys cI cB cJ cZ cM) s) (hSt : lw_St dC dI cI cB cJ cZ cM s x mm t H locs) (hl : lv_has ls 4 [(3, .int i), (2, .ref mm), (1, .ref x), (0, .ref b)]) (hv1 : vp_in (i + 1) L) (hf : cells ≤ room_1.cells ∧ slots ≤ room_1.slots) (kk : ∀ (t' : Nat) (H' : Heap) (locs' : List Loc), t' ≤ t + 20 → lw_St dC dI cI cB cJ cZ cM s x mm t' H' locs' → W p l e room_1 s m #[Value.ref b] below meth c H' locs' cells slots (lw_Z below #[Value.ref b] s) (F0 m 1029 ls [])) : W p l e room_1 s m #[Value.ref b] below meth c H locs cells slots (lw_Z below #[Value.ref b] s) (F0 m 503 ls []) := by
  obtain ⟨hx, hb, hr, hml, hown, hts, hX, hbl, hlocks, hgv⟩ := C0
  have hown : s.vm.findClass RL = some m.cls := hown
  obtain ⟨R, S, Rm, C, P, Q, V, n, I, J, A, B, hR, hP, hD, hS⟩ := hSt
  have hA : ∀ q : Nat, s.heap.size ≤ q → (fun q : Nat => s.heap.size ≤ q) q := fun _ h => h
  have hbA : ¬ (fun q : Nat => s.heap.size ≤ q) b := Nat.not_le.mpr hbl
  obtain ⟨z_a, z_c_r1, z_c_r2, z_c_r3, z_c_r4, z_c_r5, z_c_r6, z_m_r1, z_m_r2, z_m_r3, z_m_r4, z_m_r5, z_m_r6, z_m_r7, z_m_r8, z_m_r9, z_m_r10, z_m_r11, z_m_r12, hf1, hf2, hR1⟩ := x_heard N h5 hR (xs (i + 1).toNatClampNeg)
  refine lv_aload_n hx hb dL_law_503 rfl (lv_at hl 2 rfl) ?_
  refine lv_aload_n hx hb dL_law_504 rfl (lv_at hl 3 rfl) ?_
  refine lv_iload_n hx hb dL_law_505 rfl (lv_at hl 0 rfl) ?_
  refine lv_iconst (v := 1) hx hb dL_law_506 (by decide) ?_
  refine lv_iadd hx hb dL_law_507 ?_
  refine va_sld hx hb hX hbl hbA hS hv1 dL_law_508 ?_
  rw [List.append_assoc] at hP hD
  refine lw_callV (As := [.int (xs (i + 1).toNatClampNeg)]) (rest := []) (ci := 11) (q0 := 0) (wa' := lw_wc cI cB x R (va_up (va_up (va_up (va_up (va_up (va_up C 22 z_c_r1) 23 z_c_r2) 24 z_c_r3) 25 z_c_r4) 20 z_c_r5) 21 z_c_r6) n) ⟨hx, hb, hml, hown, hts⟩ (kX11_heard l dC dI cI cB cJ cZ cM s.heap.size ad N x (C 0) (R 0) (C 10) (R 9) (C 5) (R 2) (C 22) (R 3) (C 6) (C 23) (C 7) (C 24) (C 25) (C 4) (R 10) (C 20) (C 17) (n 0) (C 21) (C 19) (n 2) (C 15) (C 13) (C 18) (n 1) (xs (i + 1).toNatClampNeg) hf1) (cwV 1 hts lw_gX11_heard rfl rfl rfl (by decide +kernel) ⟨Nat.le_of_ble_eq_true rfl, Nat.le_of_ble_eq_true rfl⟩) hN hK hP hD hS hA [0, 10, 4, 22, 5, 23, 6, 24, 25, 3, 20, 17, 21, 19, 15, 13, 18] (by decide +kernel) rfl rfl rfl rfl rfl rfl rfl hl.1 rfl (Nat.le_of_ble_eq_true rfl) dL_law_509 hf (fun H locs hP hD hS => ?_)
  rw [← List.append_assoc] at hP hD
  have hP := lw_swP hP
  have hD := lw_swD hD
  refine W.eq (g2 := F0 m 512 ls [.int z_a]) rfl ?_
  refine lv_aload_n hx hb dL_law_512 rfl (lv_at hl 1 rfl) ?_
  refine lv_aload_n hx hb dL_law_513 rfl (lv_at hl 3 rfl) ?_
  refine lv_iload_n hx hb dL_law_514 rfl (lv_at hl 0 rfl) ?_
  refine lv_iconst (v := 1) hx hb dL_law_515 (by decide) ?_
  refine lv_iadd hx hb dL_law_516 ?_
  refine va_sld hx hb hX hbl hbA hS hv1 dL_law_517 ?_
  refine lw_callV (As := [.int (xs (i + 1).toNatClampNeg)]) (rest := [.int z_a]) (ci := 12) (q0 := 0) (wa' := lw_wm cI cJ cZ mm Rm I J (va_up (va_up (va_up (va_up (va_up (va_up (va_up (va_up (va_up (va_up (va_up (A) 45 z_m_r1) 46 z_m_r2) 47 z_m_r3) 48 z_m_r4) 49 z_m_r5) 50 z_m_r6) 52 z_m_r7) 51 z_m_r8) 53 z_m_r9) 58 z_m_r10) 59 z_m_r12) (va_up (B) 57 z_m_r11)) ⟨hx, hb, hml, hown, hts⟩ (kX12_heard l dC dI cI cB cJ cZ cM s.heap.size ad N mm I J Rm (A 45) (A 46) (A 47) (A 48) (A 49) (A 50) (A 52) (A 51) (A 53) (A 24) (A 58) (A 25) (B 57) (A 26) (A 27) (A 14) (A 21) (A 22) (A 18) (A 59) (A 20) (xs (i + 1).toNatClampNeg) hf2) (cwV 1 hts lw_gX12_heard rfl rfl rfl (by decide +kernel) ⟨Nat.le_of_ble_eq_true rfl, Nat.le_of_ble_eq_true rfl⟩) hN hK hP hD hS hA [0, 25, 26, 27, 28, 29, 30, 32, 31, 33, 12, 35, 13, 34, 14, 15, 2, 9, 10, 6, 36, 8] (by decide +kernel) rfl rfl rfl rfl rfl rfl rfl hl.1 rfl (Nat.le_of_ble_eq_true rfl) dL_law_518 hf (fun H locs hP hD hS => ?_)
  have hP := lw_swP hP
  have hD := lw_swD hD
  refine W.eq (g2 := F0 m 521 ls [.int z_a, .int z_a]) rfl ?_
  refine lv_icmp_eq (tgt := 1029) hx hb dL_law_521 (by decide) (fun c_1 => ?_) (fun c_1 => absurd rfl c_1)
  exact kk _ _ _ (Nat.le_add_right _ _) ⟨R, S, Rm, (va_up (va_up (va_up (va_up (va_up (va_up C 22 z_c_r1) 23 z_c_r2) 24 z_c_r3) 25 z_c_r4) 20 z_c_r5) 21 z_c_r6), P, Q, V, n, I, J, (va_up (va_up (va_up (va_up (va_up (va_up (va_up (va_up (va_up (va_up (va_up (A) 45 z_m_r1) 46 z_m_r2) 47 z_m_r3) 48 z_m_r4) 49 z_m_r5) 50 z_m_r6) 52 z_m_r7) 51 z_m_r8) 53 z_m_r9) 58 z_m_r10) 59 z_m_r12), (va_up (B) 57 z_m_r11), hR1, hP, hD, hS⟩
set_option maxHeartbeats 4000000 in
set_option maxRecDepth 100000 in
theorem lwo_often (h5 : 5000 ≤ N) (C0 : lw_At p s m meth c b L xs) (hN : xq_Env s.heap.size ad (fun q : Nat => s.heap.size ≤ q) s) (hK : va_K (dC, dI) vwCl (xq_tys cI cB cJ cZ cM) s) (hSt : lw_St dC dI cI cB cJ cZ cM s x mm t H locs) (hl : lv_has ls 4 [(3, .int i), (2, .ref mm), (1, .ref x), (0, .ref b)]) (hv1 : vp_in (i + 1) L) (hv2 : vp_in (i + 2) L) (hf : cells ≤ room_1.cells ∧ slots ≤ room_1.slots) (kk : ∀ (t' : Nat) (H' : Heap) (locs' : List Loc), t' ≤ t + 20 → lw_St dC dI cI cB cJ cZ cM s x mm t' H' locs' → W p l e room_1 s m #[Value.ref b] below meth c H' locs' cells slots (lw_Z below #[Value.ref b] s) (F0 m 1029 ls [])) : W p l e room_1 s m #[Value.ref b] below meth c H locs cells slots (lw_Z below #[Value.ref b] s) (F0 m 526 ls []) := by
  obtain ⟨hx, hb, hr, hml, hown, hts, hX, hbl, hlocks, hgv⟩ := C0
  have hown : s.vm.findClass RL = some m.cls := hown
  obtain ⟨R, S, Rm, C, P, Q, V, n, I, J, A, B, hR, hP, hD, hS⟩ := hSt
  have hA : ∀ q : Nat, s.heap.size ≤ q → (fun q : Nat => s.heap.size ≤ q) q := fun _ h => h
  have hbA : ¬ (fun q : Nat => s.heap.size ≤ q) b := Nat.not_le.mpr hbl
  obtain ⟨z_a, z_c_r1, z_c_r2, z_c_r3, z_c_r4, z_c_r5, z_c_r6, z_m_r1, z_m_r2, z_m_r3, z_m_r4, z_m_r5, z_m_r6, z_m_r7, z_m_r8, z_m_r9, z_m_r10, z_m_r11, z_m_r12, hf1, hf2, hR1⟩ := x_often N h5 hR (xs (i + 1).toNatClampNeg) (xs (i + 2).toNatClampNeg)
  refine lv_aload_n hx hb dL_law_526 rfl (lv_at hl 2 rfl) ?_
  refine lv_aload_n hx hb dL_law_527 rfl (lv_at hl 3 rfl) ?_
  refine lv_iload_n hx hb dL_law_528 rfl (lv_at hl 0 rfl) ?_
  refine lv_iconst (v := 1) hx hb dL_law_529 (by decide) ?_
  refine lv_iadd hx hb dL_law_530 ?_
  refine va_sld hx hb hX hbl hbA hS hv1 dL_law_531 ?_
  refine lv_aload_n hx hb dL_law_532 rfl (lv_at hl 3 rfl) ?_
  refine lv_iload_n hx hb dL_law_533 rfl (lv_at hl 0 rfl) ?_
  refine lv_iconst (v := 2) hx hb dL_law_534 (by decide) ?_
  refine lv_iadd hx hb dL_law_535 ?_
  refine va_sld hx hb hX hbl hbA hS hv2 dL_law_536 ?_
  rw [List.append_assoc] at hP hD
  refine lw_callV (As := [.int (xs (i + 1).toNatClampNeg), .int (xs (i + 2).toNatClampNeg)]) (rest := []) (ci := 11) (q0 := 0) (wa' := lw_wc cI cB x R (va_up (va_up (va_up (va_up (va_up (va_up C 22 z_c_r1) 23 z_c_r2) 24 z_c_r3) 25 z_c_r4) 20 z_c_r5) 21 z_c_r6) n) ⟨hx, hb, hml, hown, hts⟩ (kX11_often l dC dI cI cB cJ cZ cM s.heap.size ad N x (C 0) (R 0) (C 10) (R 9) (C 5) (R 2) (C 22) (R 3) (C 6) (C 23) (C 7) (C 24) (C 25) (C 4) (R 10) (C 20) (C 17) (n 0) (C 21) (C 19) (n 2) (C 15) (C 13) (C 18) (n 1) (xs (i + 1).toNatClampNeg) (xs (i + 2).toNatClampNeg) hf1) (cwV 2 hts lw_gX11_often rfl rfl rfl (by decide +kernel) ⟨Nat.le_of_ble_eq_true rfl, Nat.le_of_ble_eq_true rfl⟩) hN hK hP hD hS hA [0, 10, 4, 22, 5, 23, 6, 24, 25, 3, 20, 17, 21, 19, 15, 13, 18] (by decide +kernel) rfl rfl rfl rfl rfl rfl rfl hl.1 rfl (Nat.le_of_ble_eq_true rfl) dL_law_537 hf (fun H locs hP hD hS => ?_)
  rw [← List.append_assoc] at hP hD
  have hP := lw_swP hP
  have hD := lw_swD hD
  refine W.eq (g2 := F0 m 540 ls [.int z_a]) rfl ?_
  refine lv_aload_n hx hb dL_law_540 rfl (lv_at hl 1 rfl) ?_
  refine lv_aload_n hx hb dL_law_541 rfl (lv_at hl 3 rfl) ?_
  refine lv_iload_n hx hb dL_law_542 rfl (lv_at hl 0 rfl) ?_
  refine lv_iconst (v := 1) hx hb dL_law_543 (by decide) ?_
  refine lv_iadd hx hb dL_law_544 ?_
  refine va_sld hx hb hX hbl hbA hS hv1 dL_law_545 ?_
  refine lv_aload_n hx hb dL_law_546 rfl (lv_at hl 3 rfl) ?_
  refine lv_iload_n hx hb dL_law_547 rfl (lv_at hl 0 rfl) ?_
  refine lv_iconst (v := 2) hx hb dL_law_548 (by decide) ?_
  refine lv_iadd hx hb dL_law_549 ?_
  refine va_sld hx hb hX hbl hbA hS hv2 dL_law_550 ?_
  refine lw_callV (As := [.int (xs (i + 1).toNatClampNeg), .int (xs (i + 2).toNatClampNeg)]) (rest := [.int z_a]) (ci := 12) (q0 := 0) (wa' := lw_wm cI cJ cZ mm Rm I J (va_up (va_up (va_up (va_up (va_up (va_up (va_up (va_up (va_up (va_up (va_up (A) 45 z_m_r1) 46 z_m_r2) 47 z_m_r3) 48 z_m_r4) 49 z_m_r5) 50 z_m_r6) 52 z_m_r7) 51 z_m_r8) 53 z_m_r9) 58 z_m_r10) 59 z_m_r12) (va_up (B) 57 z_m_r11)) ⟨hx, hb, hml, hown, hts⟩ (kX12_often l dC dI cI cB cJ cZ cM s.heap.size ad N mm I J Rm (A 18) (A 45) (A 46) (A 47) (A 48) (A 49) (A 50) (A 52) (A 51) (A 53) (A 24) (A 58) (A 25) (B 57) (A 26) (A 27) (A 14) (A 21) (A 22) (A 59) (A 20) (xs (i + 1).toNatClampNeg) (xs (i + 2).toNatClampNeg) hf2) (cwV 2 hts lw_gX12_often rfl rfl rfl (by decide +kernel) ⟨Nat.le_of_ble_eq_true rfl, Nat.le_of_ble_eq_true rfl⟩) hN hK hP hD hS hA [0, 6, 25, 26, 27, 28, 29, 30, 32, 31, 33, 12, 35, 13, 34, 14, 15, 2, 9, 10, 36, 8] (by decide +kernel) rfl rfl rfl rfl rfl rfl rfl hl.1 rfl (Nat.le_of_ble_eq_true rfl) dL_law_551 hf (fun H locs hP hD hS => ?_)
  have hP := lw_swP hP
  have hD := lw_swD hD
  refine W.eq (g2 := F0 m 554 ls [.int z_a, .int z_a]) rfl ?_
  refine lv_icmp_eq (tgt := 1029) hx hb dL_law_554 (by decide) (fun c_1 => ?_) (fun c_1 => absurd rfl c_1)
  exact kk _ _ _ (Nat.le_add_right _ _) ⟨R, S, Rm, (va_up (va_up (va_up (va_up (va_up (va_up C 22 z_c_r1) 23 z_c_r2) 24 z_c_r3) 25 z_c_r4) 20 z_c_r5) 21 z_c_r6), P, Q, V, n, I, J, (va_up (va_up (va_up (va_up (va_up (va_up (va_up (va_up (va_up (va_up (va_up (A) 45 z_m_r1) 46 z_m_r2) 47 z_m_r3) 48 z_m_r4) 49 z_m_r5) 50 z_m_r6) 52 z_m_r7) 51 z_m_r8) 53 z_m_r9) 58 z_m_r10) 59 z_m_r12), (va_up (B) 57 z_m_r11), hR1, hP, hD, hS⟩
set_option maxHeartbeats 4000000 in
set_option maxRecDepth 100000 in
theorem lwo_quiet (h5 : 5000 ≤ N) (C0 : lw_At p s m meth c b L xs) (hN : xq_Env s.heap.size ad (fun q : Nat => s.heap.size ≤ q) s) (hK : va_K (dC, dI) vwCl (xq_tys cI cB cJ cZ cM) s) (hSt : lw_St dC dI cI cB cJ cZ cM s x mm t H locs) (hl : lv_has ls 4 [(3, .int i), (2, .ref mm), (1, .ref x), (0, .ref b)]) (hv1 : vp_in (i + 1) L) (hv2 : vp_in (i + 2) L) (hf : cells ≤ room_1.cells ∧ slots ≤ room_1.slots) (kk : ∀ (t' : Nat) (H' : Heap) (locs' : List Loc), t' ≤ t + 20 → lw_St dC dI cI cB cJ cZ cM s x mm t' H' locs' → W p l e room_1 s m #[Value.ref b] below meth c H' locs' cells slots (lw_Z below #[Value.ref b] s) (F0 m 1029 ls [])) : W p l e room_1 s m #[Value.ref b] below meth c H locs cells slots (lw_Z below #[Value.ref b] s) (F0 m 559 ls []) := by
  obtain ⟨hx, hb, hr, hml, hown, hts, hX, hbl, hlocks, hgv⟩ := C0
  have hown : s.vm.findClass RL = some m.cls := hown
  obtain ⟨R, S, Rm, C, P, Q, V, n, I, J, A, B, hR, hP, hD, hS⟩ := hSt
  have hA : ∀ q : Nat, s.heap.size ≤ q → (fun q : Nat => s.heap.size ≤ q) q := fun _ h => h
  have hbA : ¬ (fun q : Nat => s.heap.size ≤ q) b := Nat.not_le.mpr hbl
  obtain ⟨z_a, z_c_r1, z_c_r2, z_c_r3, z_c_r4, z_c_r5, z_c_r6, z_m_r1, z_m_r2, z_m_r3, z_m_r4, z_m_r5, z_m_r6, z_m_r7, z_m_r8, z_m_r9, z_m_r10, z_m_r11, z_m_r12, hf1, hf2, hR1⟩ := x_quiet N h5 hR (xs (i + 1).toNatClampNeg) (xs (i + 2).toNatClampNeg)
  refine lv_aload_n hx hb dL_law_559 rfl (lv_at hl 2 rfl) ?_
  refine lv_aload_n hx hb dL_law_560 rfl (lv_at hl 3 rfl) ?_
  refine lv_iload_n hx hb dL_law_561 rfl (lv_at hl 0 rfl) ?_
  refine lv_iconst (v := 1) hx hb dL_law_562 (by decide) ?_
  refine lv_iadd hx hb dL_law_563 ?_
  refine va_sld hx hb hX hbl hbA hS hv1 dL_law_564 ?_
  refine lv_aload_n hx hb dL_law_565 rfl (lv_at hl 3 rfl) ?_
  refine lv_iload_n hx hb dL_law_566 rfl (lv_at hl 0 rfl) ?_
  refine lv_iconst (v := 2) hx hb dL_law_567 (by decide) ?_
  refine lv_iadd hx hb dL_law_568 ?_
  refine va_sld hx hb hX hbl hbA hS hv2 dL_law_569 ?_
  rw [List.append_assoc] at hP hD
  refine lw_callV (As := [.int (xs (i + 1).toNatClampNeg), .int (xs (i + 2).toNatClampNeg)]) (rest := []) (ci := 11) (q0 := 0) (wa' := lw_wc cI cB x R (va_up (va_up (va_up (va_up (va_up (va_up C 22 z_c_r1) 23 z_c_r2) 24 z_c_r3) 25 z_c_r4) 20 z_c_r5) 21 z_c_r6) n) ⟨hx, hb, hml, hown, hts⟩ (kX11_quiet l dC dI cI cB cJ cZ cM s.heap.size ad N x (C 0) (R 0) (C 10) (R 9) (C 5) (R 2) (C 22) (R 3) (C 6) (C 23) (C 7) (C 24) (C 25) (C 4) (R 10) (C 20) (C 17) (n 0) (C 21) (C 19) (n 2) (C 15) (C 13) (C 18) (n 1) (xs (i + 1).toNatClampNeg) (xs (i + 2).toNatClampNeg) hf1) (cwV 2 hts lw_gX11_quiet rfl rfl rfl (by decide +kernel) ⟨Nat.le_of_ble_eq_true rfl, Nat.le_of_ble_eq_true rfl⟩) hN hK hP hD hS hA [0, 10, 4, 22, 5, 23, 6, 24, 25, 3, 20, 17, 21, 19, 15, 13, 18] (by decide +kernel) rfl rfl rfl rfl rfl rfl rfl hl.1 rfl (Nat.le_of_ble_eq_true rfl) dL_law_570 hf (fun H locs hP hD hS => ?_)
  rw [← List.append_assoc] at hP hD
  have hP := lw_swP hP
  have hD := lw_swD hD
  refine W.eq (g2 := F0 m 573 ls [.int z_a]) rfl ?_
  refine lv_aload_n hx hb dL_law_573 rfl (lv_at hl 1 rfl) ?_
  refine lv_aload_n hx hb dL_law_574 rfl (lv_at hl 3 rfl) ?_
  refine lv_iload_n hx hb dL_law_575 rfl (lv_at hl 0 rfl) ?_
  refine lv_iconst (v := 1) hx hb dL_law_576 (by decide) ?_
  refine lv_iadd hx hb dL_law_577 ?_
  refine va_sld hx hb hX hbl hbA hS hv1 dL_law_578 ?_
  refine lv_aload_n hx hb dL_law_579 rfl (lv_at hl 3 rfl) ?_
  refine lv_iload_n hx hb dL_law_580 rfl (lv_at hl 0 rfl) ?_
  refine lv_iconst (v := 2) hx hb dL_law_581 (by decide) ?_
  refine lv_iadd hx hb dL_law_582 ?_
  refine va_sld hx hb hX hbl hbA hS hv2 dL_law_583 ?_
  refine lw_callV (As := [.int (xs (i + 1).toNatClampNeg), .int (xs (i + 2).toNatClampNeg)]) (rest := [.int z_a]) (ci := 12) (q0 := 0) (wa' := lw_wm cI cJ cZ mm Rm I J (va_up (va_up (va_up (va_up (va_up (va_up (va_up (va_up (va_up (va_up (va_up (A) 45 z_m_r1) 46 z_m_r2) 47 z_m_r3) 48 z_m_r4) 49 z_m_r5) 50 z_m_r6) 52 z_m_r7) 51 z_m_r8) 53 z_m_r9) 58 z_m_r10) 59 z_m_r12) (va_up (B) 57 z_m_r11)) ⟨hx, hb, hml, hown, hts⟩ (kX12_quiet l dC dI cI cB cJ cZ cM s.heap.size ad N mm I J Rm (A 18) (A 45) (A 46) (A 47) (A 48) (A 49) (A 50) (A 52) (A 51) (A 53) (A 24) (A 58) (A 25) (B 57) (A 26) (A 27) (A 14) (A 21) (A 22) (A 59) (A 20) (xs (i + 1).toNatClampNeg) (xs (i + 2).toNatClampNeg) hf2) (cwV 2 hts lw_gX12_quiet rfl rfl rfl (by decide +kernel) ⟨Nat.le_of_ble_eq_true rfl, Nat.le_of_ble_eq_true rfl⟩) hN hK hP hD hS hA [0, 6, 25, 26, 27, 28, 29, 30, 32, 31, 33, 12, 35, 13, 34, 14, 15, 2, 9, 10, 36, 8] (by decide +kernel) rfl rfl rfl rfl rfl rfl rfl hl.1 rfl (Nat.le_of_ble_eq_true rfl) dL_law_584 hf (fun H locs hP hD hS => ?_)
  have hP := lw_swP hP
  have hD := lw_swD hD
  refine W.eq (g2 := F0 m 587 ls [.int z_a, .int z_a]) rfl ?_
  refine lv_icmp_eq (tgt := 1029) hx hb dL_law_587 (by decide) (fun c_1 => ?_) (fun c_1 => absurd rfl c_1)
  exact kk _ _ _ (Nat.le_add_right _ _) ⟨R, S, Rm, (va_up (va_up (va_up (va_up (va_up (va_up C 22 z_c_r1) 23 z_c_r2) 24 z_c_r3) 25 z_c_r4) 20 z_c_r5) 21 z_c_r6), P, Q, V, n, I, J, (va_up (va_up (va_up (va_up (va_up (va_up (va_up (va_up (va_up (va_up (va_up (A) 45 z_m_r1) 46 z_m_r2) 47 z_m_r3) 48 z_m_r4) 49 z_m_r5) 50 z_m_r6) 52 z_m_r7) 51 z_m_r8) 53 z_m_r9) 58 z_m_r10) 59 z_m_r12), (va_up (B) 57 z_m_r11), hR1, hP, hD, hS⟩
set_option maxHeartbeats 4000000 in
set_option maxRecDepth 100000 in
theorem lwo_seats (h5 : 5000 ≤ N) (C0 : lw_At p s m meth c b L xs) (hN : xq_Env s.heap.size ad (fun q : Nat => s.heap.size ≤ q) s) (hK : va_K (dC, dI) vwCl (xq_tys cI cB cJ cZ cM) s) (hSt : lw_St dC dI cI cB cJ cZ cM s x mm t H locs) (hl : lv_has ls 4 [(3, .int i), (2, .ref mm), (1, .ref x), (0, .ref b)]) (hv1 : vp_in (i + 1) L) (hv2 : vp_in (i + 2) L) (hf : cells ≤ room_1.cells ∧ slots ≤ room_1.slots) (kk : ∀ (t' : Nat) (H' : Heap) (locs' : List Loc), t' ≤ t + 20 → lw_St dC dI cI cB cJ cZ cM s x mm t' H' locs' → W p l e room_1 s m #[Value.ref b] below meth c H' locs' cells slots (lw_Z below #[Value.ref b] s) (F0 m 1029 ls [])) : W p l e room_1 s m #[Value.ref b] below meth c H locs cells slots (lw_Z below #[Value.ref b] s) (F0 m 592 ls []) := by
  obtain ⟨hx, hb, hr, hml, hown, hts, hX, hbl, hlocks, hgv⟩ := C0
  have hown : s.vm.findClass RL = some m.cls := hown
  obtain ⟨R, S, Rm, C, P, Q, V, n, I, J, A, B, hR, hP, hD, hS⟩ := hSt
  have hA : ∀ q : Nat, s.heap.size ≤ q → (fun q : Nat => s.heap.size ≤ q) q := fun _ h => h
  have hbA : ¬ (fun q : Nat => s.heap.size ≤ q) b := Nat.not_le.mpr hbl
  obtain ⟨z_a, z_c_r1, z_c_r2, z_c_r3, z_c_r4, z_c_r5, z_c_r6, z_c_r7, z_c_r8, z_m_r1, z_m_r2, z_m_r3, z_m_r4, z_m_r5, z_m_r6, z_m_r7, z_m_r8, z_m_r9, z_m_r10, z_m_r11, z_m_r12, z_m_r13, hf1, hf2, hR1⟩ := x_seats N h5 hR (xs (i + 1).toNatClampNeg) (xs (i + 2).toNatClampNeg)
  refine lv_aload_n hx hb dL_law_592 rfl (lv_at hl 2 rfl) ?_
  refine lv_aload_n hx hb dL_law_593 rfl (lv_at hl 3 rfl) ?_
  refine lv_iload_n hx hb dL_law_594 rfl (lv_at hl 0 rfl) ?_
  refine lv_iconst (v := 1) hx hb dL_law_595 (by decide) ?_
  refine lv_iadd hx hb dL_law_596 ?_
  refine va_sld hx hb hX hbl hbA hS hv1 dL_law_597 ?_
  refine lv_aload_n hx hb dL_law_598 rfl (lv_at hl 3 rfl) ?_
  refine lv_iload_n hx hb dL_law_599 rfl (lv_at hl 0 rfl) ?_
  refine lv_iconst (v := 2) hx hb dL_law_600 (by decide) ?_
  refine lv_iadd hx hb dL_law_601 ?_
  refine va_sld hx hb hX hbl hbA hS hv2 dL_law_602 ?_
  rw [List.append_assoc] at hP hD
  refine lw_callV (As := [.int (xs (i + 1).toNatClampNeg), .int (xs (i + 2).toNatClampNeg)]) (rest := []) (ci := 11) (q0 := 0) (wa' := lw_wc cI cB x R (va_up (va_up (va_up (va_up (va_up (va_up (va_up (va_up C 27 z_c_r1) 22 z_c_r2) 23 z_c_r3) 24 z_c_r4) 28 z_c_r5) 29 z_c_r6) 20 z_c_r7) 21 z_c_r8) n) ⟨hx, hb, hml, hown, hts⟩ (kX11_seats l dC dI cI cB cJ cZ cM s.heap.size ad N x (C 0) (R 0) (C 10) (R 9) (C 5) (R 2) (C 26) (R 7) (C 27) (C 22) (R 3) (C 6) (C 23) (C 7) (C 24) (C 28) (C 29) (C 4) (R 10) (C 20) (C 17) (n 0) (C 21) (C 19) (n 2) (C 15) (C 13) (C 18) (n 1) (xs (i + 1).toNatClampNeg) (xs (i + 2).toNatClampNeg) hf1) (cwV 2 hts lw_gX11_seats rfl rfl rfl (by decide +kernel) ⟨Nat.le_of_ble_eq_true rfl, Nat.le_of_ble_eq_true rfl⟩) hN hK hP hD hS hA [0, 10, 4, 26, 27, 22, 5, 23, 6, 24, 28, 29, 3, 20, 17, 21, 19, 15, 13, 18] (by decide +kernel) rfl rfl rfl rfl rfl rfl rfl hl.1 rfl (Nat.le_of_ble_eq_true rfl) dL_law_603 hf (fun H locs hP hD hS => ?_)
  rw [← List.append_assoc] at hP hD
  have hP := lw_swP hP
  have hD := lw_swD hD
  refine W.eq (g2 := F0 m 606 ls [.int z_a]) rfl ?_
  refine lv_aload_n hx hb dL_law_606 rfl (lv_at hl 1 rfl) ?_
  refine lv_aload_n hx hb dL_law_607 rfl (lv_at hl 3 rfl) ?_
  refine lv_iload_n hx hb dL_law_608 rfl (lv_at hl 0 rfl) ?_
  refine lv_iconst (v := 1) hx hb dL_law_609 (by decide) ?_
  refine lv_iadd hx hb dL_law_610 ?_
  refine va_sld hx hb hX hbl hbA hS hv1 dL_law_611 ?_
  refine lv_aload_n hx hb dL_law_612 rfl (lv_at hl 3 rfl) ?_
  refine lv_iload_n hx hb dL_law_613 rfl (lv_at hl 0 rfl) ?_
  refine lv_iconst (v := 2) hx hb dL_law_614 (by decide) ?_
  refine lv_iadd hx hb dL_law_615 ?_
  refine va_sld hx hb hX hbl hbA hS hv2 dL_law_616 ?_
  refine lw_callV (As := [.int (xs (i + 1).toNatClampNeg), .int (xs (i + 2).toNatClampNeg)]) (rest := [.int z_a]) (ci := 12) (q0 := 0) (wa' := lw_wm cI cJ cZ mm Rm I J (va_up (va_up (va_up (va_up (va_up (va_up (va_up (va_up (va_up (va_up (va_up (va_up (A) 45 z_m_r1) 46 z_m_r2) 47 z_m_r3) 48 z_m_r4) 49 z_m_r5) 50 z_m_r6) 52 z_m_r7) 51 z_m_r8) 53 z_m_r9) 59 z_m_r10) 58 z_m_r11) 60 z_m_r13) (va_up (B) 57 z_m_r12)) ⟨hx, hb, hml, hown, hts⟩ (kX12_seats l dC dI cI cB cJ cZ cM s.heap.size ad N mm I J Rm (A 45) (A 18) (A 46) (A 47) (A 48) (A 49) (A 50) (A 52) (A 51) (A 53) (A 59) (A 24) (A 58) (A 25) (B 57) (A 26) (A 27) (A 14) (A 21) (A 22) (A 20) (A 60) (xs (i + 1).toNatClampNeg) (xs (i + 2).toNatClampNeg) hf2) (cwV 2 hts lw_gX12_seats rfl rfl rfl (by decide +kernel) ⟨Nat.le_of_ble_eq_true rfl, Nat.le_of_ble_eq_true rfl⟩) hN hK hP hD hS hA [0, 25, 6, 26, 27, 28, 29, 30, 32, 31, 33, 36, 12, 35, 13, 34, 14, 15, 2, 9, 10, 8, 37] (by decide +kernel) rfl rfl rfl rfl rfl rfl rfl hl.1 rfl (Nat.le_of_ble_eq_true rfl) dL_law_617 hf (fun H locs hP hD hS => ?_)
  have hP := lw_swP hP
  have hD := lw_swD hD
  refine W.eq (g2 := F0 m 620 ls [.int z_a, .int z_a]) rfl ?_
  refine lv_icmp_eq (tgt := 1029) hx hb dL_law_620 (by decide) (fun c_1 => ?_) (fun c_1 => absurd rfl c_1)
  exact kk _ _ _ (Nat.le_add_right _ _) ⟨R, S, Rm, (va_up (va_up (va_up (va_up (va_up (va_up (va_up (va_up C 27 z_c_r1) 22 z_c_r2) 23 z_c_r3) 24 z_c_r4) 28 z_c_r5) 29 z_c_r6) 20 z_c_r7) 21 z_c_r8), P, Q, V, n, I, J, (va_up (va_up (va_up (va_up (va_up (va_up (va_up (va_up (va_up (va_up (va_up (va_up (A) 45 z_m_r1) 46 z_m_r2) 47 z_m_r3) 48 z_m_r4) 49 z_m_r5) 50 z_m_r6) 52 z_m_r7) 51 z_m_r8) 53 z_m_r9) 59 z_m_r10) 58 z_m_r11) 60 z_m_r13), (va_up (B) 57 z_m_r12), hR1, hP, hD, hS⟩
set_option maxHeartbeats 4000000 in
set_option maxRecDepth 100000 in
theorem lwo_watch (h5 : 5000 ≤ N) (C0 : lw_At p s m meth c b L xs) (hN : xq_Env s.heap.size ad (fun q : Nat => s.heap.size ≤ q) s) (hK : va_K (dC, dI) vwCl (xq_tys cI cB cJ cZ cM) s) (hSt : lw_St dC dI cI cB cJ cZ cM s x mm t H locs) (hl : lv_has ls 4 [(3, .int i), (2, .ref mm), (1, .ref x), (0, .ref b)]) (hv1 : vp_in (i + 1) L) (hf : cells ≤ room_1.cells ∧ slots ≤ room_1.slots) (kk : ∀ (t' : Nat) (H' : Heap) (locs' : List Loc), t' ≤ t + 20 → lw_St dC dI cI cB cJ cZ cM s x mm t' H' locs' → W p l e room_1 s m #[Value.ref b] below meth c H' locs' cells slots (lw_Z below #[Value.ref b] s) (F0 m 1029 ls [])) : W p l e room_1 s m #[Value.ref b] below meth c H locs cells slots (lw_Z below #[Value.ref b] s) (F0 m 625 ls []) := by
  obtain ⟨hx, hb, hr, hml, hown, hts, hX, hbl, hlocks, hgv⟩ := C0
  have hown : s.vm.findClass RL = some m.cls := hown
  obtain ⟨R, S, Rm, C, P, Q, V, n, I, J, A, B, hR, hP, hD, hS⟩ := hSt
  have hA : ∀ q : Nat, s.heap.size ≤ q → (fun q : Nat => s.heap.size ≤ q) q := fun _ h => h
  have hbA : ¬ (fun q : Nat => s.heap.size ≤ q) b := Nat.not_le.mpr hbl
  obtain ⟨z_a, z_c_r1, z_c_r2, z_c_r3, z_c_r4, z_c_r5, z_c_r6, z_m_r1, z_m_r2, z_m_r3, z_m_r4, z_m_r5, z_m_r6, z_m_r7, z_m_r8, z_m_r9, z_m_r10, z_m_r11, z_m_r12, z_m_r13, hf1, hf2, hR1⟩ := x_watch N h5 hR (xs (i + 1).toNatClampNeg)
  refine lv_aload_n hx hb dL_law_625 rfl (lv_at hl 2 rfl) ?_
  refine lv_aload_n hx hb dL_law_626 rfl (lv_at hl 3 rfl) ?_
  refine lv_iload_n hx hb dL_law_627 rfl (lv_at hl 0 rfl) ?_
  refine lv_iconst (v := 1) hx hb dL_law_628 (by decide) ?_
  refine lv_iadd hx hb dL_law_629 ?_
  refine va_sld hx hb hX hbl hbA hS hv1 dL_law_630 ?_
  rw [List.append_assoc] at hP hD
  refine lw_callV (As := [.int (xs (i + 1).toNatClampNeg)]) (rest := []) (ci := 11) (q0 := 0) (wa' := lw_wc cI cB x R (va_up (va_up (va_up (va_up (va_up (va_up C 22 z_c_r1) 23 z_c_r2) 24 z_c_r3) 25 z_c_r4) 20 z_c_r5) 21 z_c_r6) n) ⟨hx, hb, hml, hown, hts⟩ (kX11_watch l dC dI cI cB cJ cZ cM s.heap.size ad N x (C 0) (R 0) (C 10) (R 9) (C 5) (R 2) (C 22) (R 3) (C 6) (C 23) (C 7) (C 24) (C 25) (C 4) (R 10) (C 20) (C 17) (n 0) (C 21) (C 19) (n 2) (C 15) (C 13) (C 18) (n 1) (xs (i + 1).toNatClampNeg) hf1) (cwV 1 hts lw_gX11_watch rfl rfl rfl (by decide +kernel) ⟨Nat.le_of_ble_eq_true rfl, Nat.le_of_ble_eq_true rfl⟩) hN hK hP hD hS hA [0, 10, 4, 22, 5, 23, 6, 24, 25, 3, 20, 17, 21, 19, 15, 13, 18] (by decide +kernel) rfl rfl rfl rfl rfl rfl rfl hl.1 rfl (Nat.le_of_ble_eq_true rfl) dL_law_631 hf (fun H locs hP hD hS => ?_)
  rw [← List.append_assoc] at hP hD
  have hP := lw_swP hP
  have hD := lw_swD hD
  refine W.eq (g2 := F0 m 634 ls [.int z_a]) rfl ?_
  refine lv_aload_n hx hb dL_law_634 rfl (lv_at hl 1 rfl) ?_
  refine lv_aload_n hx hb dL_law_635 rfl (lv_at hl 3 rfl) ?_
  refine lv_iload_n hx hb dL_law_636 rfl (lv_at hl 0 rfl) ?_
  refine lv_iconst (v := 1) hx hb dL_law_637 (by decide) ?_
  refine lv_iadd hx hb dL_law_638 ?_
  refine va_sld hx hb hX hbl hbA hS hv1 dL_law_639 ?_
  refine lw_callV (As := [.int (xs (i + 1).toNatClampNeg)]) (rest := [.int z_a]) (ci := 12) (q0 := 0) (wa' := lw_wm cI cJ cZ mm Rm I J (va_up (va_up (va_up (va_up (va_up (va_up (va_up (va_up (va_up (va_up (va_up (va_up (A) 45 z_m_r1) 46 z_m_r2) 47 z_m_r3) 48 z_m_r4) 49 z_m_r5) 50 z_m_r6) 52 z_m_r7) 51 z_m_r8) 53 z_m_r9) 58 z_m_r10) 59 z_m_r12) 61 z_m_r13) (va_up (B) 57 z_m_r11)) ⟨hx, hb, hml, hown, hts⟩ (kX12_watch l dC dI cI cB cJ cZ cM s.heap.size ad N mm I J Rm (A 45) (A 46) (A 47) (A 48) (A 49) (A 50) (A 52) (A 51) (A 53) (A 24) (A 58) (A 25) (B 57) (A 26) (A 27) (A 14) (A 21) (A 22) (A 18) (A 59) (A 20) (A 61) (xs (i + 1).toNatClampNeg) hf2) (cwV 1 hts lw_gX12_watch rfl rfl rfl (by decide +kernel) ⟨Nat.le_of_ble_eq_true rfl, Nat.le_of_ble_eq_true rfl⟩) hN hK hP hD hS hA [0, 25, 26, 27, 28, 29, 30, 32, 31, 33, 12, 35, 13, 34, 14, 15, 2, 9, 10, 6, 36, 8, 38] (by decide +kernel) rfl rfl rfl rfl rfl rfl rfl hl.1 rfl (Nat.le_of_ble_eq_true rfl) dL_law_640 hf (fun H locs hP hD hS => ?_)
  have hP := lw_swP hP
  have hD := lw_swD hD
  refine W.eq (g2 := F0 m 643 ls [.int z_a, .int z_a]) rfl ?_
  refine lv_icmp_eq (tgt := 1029) hx hb dL_law_643 (by decide) (fun c_1 => ?_) (fun c_1 => absurd rfl c_1)
  exact kk _ _ _ (Nat.le_add_right _ _) ⟨R, S, Rm, (va_up (va_up (va_up (va_up (va_up (va_up C 22 z_c_r1) 23 z_c_r2) 24 z_c_r3) 25 z_c_r4) 20 z_c_r5) 21 z_c_r6), P, Q, V, n, I, J, (va_up (va_up (va_up (va_up (va_up (va_up (va_up (va_up (va_up (va_up (va_up (va_up (A) 45 z_m_r1) 46 z_m_r2) 47 z_m_r3) 48 z_m_r4) 49 z_m_r5) 50 z_m_r6) 52 z_m_r7) 51 z_m_r8) 53 z_m_r9) 58 z_m_r10) 59 z_m_r12) 61 z_m_r13), (va_up (B) 57 z_m_r11), hR1, hP, hD, hS⟩
set_option maxHeartbeats 4000000 in
set_option maxRecDepth 100000 in
theorem lwo_silence (h5 : 5000 ≤ N) (C0 : lw_At p s m meth c b L xs) (hN : xq_Env s.heap.size ad (fun q : Nat => s.heap.size ≤ q) s) (hK : va_K (dC, dI) vwCl (xq_tys cI cB cJ cZ cM) s) (hSt : lw_St dC dI cI cB cJ cZ cM s x mm t H locs) (hl : lv_has ls 4 [(3, .int i), (2, .ref mm), (1, .ref x), (0, .ref b)]) (hv1 : vp_in (i + 1) L) (hf : cells ≤ room_1.cells ∧ slots ≤ room_1.slots) (kk : ∀ (t' : Nat) (H' : Heap) (locs' : List Loc), t' ≤ t + 20 → lw_St dC dI cI cB cJ cZ cM s x mm t' H' locs' → W p l e room_1 s m #[Value.ref b] below meth c H' locs' cells slots (lw_Z below #[Value.ref b] s) (F0 m 1029 ls [])) : W p l e room_1 s m #[Value.ref b] below meth c H locs cells slots (lw_Z below #[Value.ref b] s) (F0 m 648 ls []) := by
  obtain ⟨hx, hb, hr, hml, hown, hts, hX, hbl, hlocks, hgv⟩ := C0
  have hown : s.vm.findClass RL = some m.cls := hown
  obtain ⟨R, S, Rm, C, P, Q, V, n, I, J, A, B, hR, hP, hD, hS⟩ := hSt
  have hA : ∀ q : Nat, s.heap.size ≤ q → (fun q : Nat => s.heap.size ≤ q) q := fun _ h => h
  have hbA : ¬ (fun q : Nat => s.heap.size ≤ q) b := Nat.not_le.mpr hbl
  obtain ⟨z_a, z_c_r1, z_c_r2, z_c_r3, z_c_r4, z_c_r5, z_c_r6, z_m_r1, z_m_r2, z_m_r3, z_m_r4, z_m_r5, z_m_r6, z_m_r7, z_m_r8, z_m_r9, z_m_r10, z_m_r11, z_m_r12, hf1, hf2, hR1⟩ := x_silence N h5 hR (xs (i + 1).toNatClampNeg)
  refine lv_aload_n hx hb dL_law_648 rfl (lv_at hl 2 rfl) ?_
  refine lv_aload_n hx hb dL_law_649 rfl (lv_at hl 3 rfl) ?_
  refine lv_iload_n hx hb dL_law_650 rfl (lv_at hl 0 rfl) ?_
  refine lv_iconst (v := 1) hx hb dL_law_651 (by decide) ?_
  refine lv_iadd hx hb dL_law_652 ?_
  refine va_sld hx hb hX hbl hbA hS hv1 dL_law_653 ?_
  rw [List.append_assoc] at hP hD
  refine lw_callV (As := [.int (xs (i + 1).toNatClampNeg)]) (rest := []) (ci := 11) (q0 := 0) (wa' := lw_wc cI cB x R (va_up (va_up (va_up (va_up (va_up (va_up C 22 z_c_r1) 23 z_c_r2) 24 z_c_r3) 25 z_c_r4) 20 z_c_r5) 21 z_c_r6) n) ⟨hx, hb, hml, hown, hts⟩ (kX11_silence l dC dI cI cB cJ cZ cM s.heap.size ad N x (C 0) (R 0) (C 10) (R 9) (C 5) (R 2) (C 22) (R 3) (C 6) (C 23) (C 7) (C 24) (C 25) (C 4) (R 10) (C 20) (C 17) (n 0) (C 21) (C 19) (n 2) (C 15) (C 13) (C 18) (n 1) (xs (i + 1).toNatClampNeg) hf1) (cwV 1 hts lw_gX11_silence rfl rfl rfl (by decide +kernel) ⟨Nat.le_of_ble_eq_true rfl, Nat.le_of_ble_eq_true rfl⟩) hN hK hP hD hS hA [0, 10, 4, 22, 5, 23, 6, 24, 25, 3, 20, 17, 21, 19, 15, 13, 18] (by decide +kernel) rfl rfl rfl rfl rfl rfl rfl hl.1 rfl (Nat.le_of_ble_eq_true rfl) dL_law_654 hf (fun H locs hP hD hS => ?_)
  rw [← List.append_assoc] at hP hD
  have hP := lw_swP hP
  have hD := lw_swD hD
  refine W.eq (g2 := F0 m 657 ls [.int z_a]) rfl ?_
  refine lv_aload_n hx hb dL_law_657 rfl (lv_at hl 1 rfl) ?_
  refine lv_aload_n hx hb dL_law_658 rfl (lv_at hl 3 rfl) ?_
  refine lv_iload_n hx hb dL_law_659 rfl (lv_at hl 0 rfl) ?_
  refine lv_iconst (v := 1) hx hb dL_law_660 (by decide) ?_
  refine lv_iadd hx hb dL_law_661 ?_
  refine va_sld hx hb hX hbl hbA hS hv1 dL_law_662 ?_
  refine lw_callV (As := [.int (xs (i + 1).toNatClampNeg)]) (rest := [.int z_a]) (ci := 12) (q0 := 0) (wa' := lw_wm cI cJ cZ mm Rm I J (va_up (va_up (va_up (va_up (va_up (va_up (va_up (va_up (va_up (va_up (va_up (A) 45 z_m_r1) 46 z_m_r2) 47 z_m_r3) 48 z_m_r4) 49 z_m_r5) 50 z_m_r6) 52 z_m_r7) 51 z_m_r8) 53 z_m_r9) 58 z_m_r10) 59 z_m_r12) (va_up (B) 57 z_m_r11)) ⟨hx, hb, hml, hown, hts⟩ (kX12_silence l dC dI cI cB cJ cZ cM s.heap.size ad N mm I J Rm (A 45) (A 21) (A 46) (A 47) (A 48) (A 49) (A 50) (A 52) (A 51) (A 53) (A 24) (A 58) (A 25) (B 57) (A 26) (A 27) (A 14) (A 22) (A 18) (A 59) (A 20) (xs (i + 1).toNatClampNeg) hf2) (cwV 1 hts lw_gX12_silence rfl rfl rfl (by decide +kernel) ⟨Nat.le_of_ble_eq_true rfl, Nat.le_of_ble_eq_true rfl⟩) hN hK hP hD hS hA [0, 25, 9, 26, 27, 28, 29, 30, 32, 31, 33, 12, 35, 13, 34, 14, 15, 2, 10, 6, 36, 8] (by decide +kernel) rfl rfl rfl rfl rfl rfl rfl hl.1 rfl (Nat.le_of_ble_eq_true rfl) dL_law_663 hf (fun H locs hP hD hS => ?_)
  have hP := lw_swP hP
  have hD := lw_swD hD
  refine W.eq (g2 := F0 m 666 ls [.int z_a, .int z_a]) rfl ?_
  refine lv_icmp_eq (tgt := 1029) hx hb dL_law_666 (by decide) (fun c_1 => ?_) (fun c_1 => absurd rfl c_1)
  exact kk _ _ _ (Nat.le_add_right _ _) ⟨R, S, Rm, (va_up (va_up (va_up (va_up (va_up (va_up C 22 z_c_r1) 23 z_c_r2) 24 z_c_r3) 25 z_c_r4) 20 z_c_r5) 21 z_c_r6), P, Q, V, n, I, J, (va_up (va_up (va_up (va_up (va_up (va_up (va_up (va_up (va_up (va_up (va_up (A) 45 z_m_r1) 46 z_m_r2) 47 z_m_r3) 48 z_m_r4) 49 z_m_r5) 50 z_m_r6) 52 z_m_r7) 51 z_m_r8) 53 z_m_r9) 58 z_m_r10) 59 z_m_r12), (va_up (B) 57 z_m_r11), hR1, hP, hD, hS⟩
set_option maxHeartbeats 4000000 in
set_option maxRecDepth 100000 in
theorem lwo_odds (h5 : 5000 ≤ N) (C0 : lw_At p s m meth c b L xs) (hN : xq_Env s.heap.size ad (fun q : Nat => s.heap.size ≤ q) s) (hK : va_K (dC, dI) vwCl (xq_tys cI cB cJ cZ cM) s) (hSt : lw_St dC dI cI cB cJ cZ cM s x mm t H locs) (hl : lv_has ls 4 [(3, .int i), (2, .ref mm), (1, .ref x), (0, .ref b)]) (hv1 : vp_in (i + 1) L) (hf : cells ≤ room_1.cells ∧ slots ≤ room_1.slots) (kk : ∀ (t' : Nat) (H' : Heap) (locs' : List Loc), t' ≤ t + 20 → lw_St dC dI cI cB cJ cZ cM s x mm t' H' locs' → W p l e room_1 s m #[Value.ref b] below meth c H' locs' cells slots (lw_Z below #[Value.ref b] s) (F0 m 1029 ls [])) : W p l e room_1 s m #[Value.ref b] below meth c H locs cells slots (lw_Z below #[Value.ref b] s) (F0 m 671 ls []) := by
  obtain ⟨hx, hb, hr, hml, hown, hts, hX, hbl, hlocks, hgv⟩ := C0
  have hown : s.vm.findClass RL = some m.cls := hown
  obtain ⟨R, S, Rm, C, P, Q, V, n, I, J, A, B, hR, hP, hD, hS⟩ := hSt
  have hA : ∀ q : Nat, s.heap.size ≤ q → (fun q : Nat => s.heap.size ≤ q) q := fun _ h => h
  have hbA : ¬ (fun q : Nat => s.heap.size ≤ q) b := Nat.not_le.mpr hbl
  obtain ⟨z_a, z_c_r1, z_c_r2, z_c_r3, z_c_r4, z_c_r5, z_m_r1, z_m_r2, z_m_r3, z_m_r4, z_m_r5, z_m_r6, z_m_r7, z_m_r8, z_m_r9, z_m_r10, z_m_r11, z_m_r12, hf1, hf2, hR1⟩ := x_odds N h5 hR (xs (i + 1).toNatClampNeg)
  refine lv_aload_n hx hb dL_law_671 rfl (lv_at hl 2 rfl) ?_
  refine lv_aload_n hx hb dL_law_672 rfl (lv_at hl 3 rfl) ?_
  refine lv_iload_n hx hb dL_law_673 rfl (lv_at hl 0 rfl) ?_
  refine lv_iconst (v := 1) hx hb dL_law_674 (by decide) ?_
  refine lv_iadd hx hb dL_law_675 ?_
  refine va_sld hx hb hX hbl hbA hS hv1 dL_law_676 ?_
  rw [List.append_assoc] at hP hD
  refine lw_callV (As := [.int (xs (i + 1).toNatClampNeg)]) (rest := []) (ci := 11) (q0 := 0) (wa' := lw_wc cI cB x R (va_up (va_up (va_up (va_up (va_up C 22 z_c_r1) 23 z_c_r2) 24 z_c_r3) 20 z_c_r4) 21 z_c_r5) n) ⟨hx, hb, hml, hown, hts⟩ (kX11_odds l dC dI cI cB cJ cZ cM s.heap.size ad N x (C 0) (R 0) (C 10) (R 9) (C 5) (R 2) (C 22) (R 3) (C 6) (C 23) (C 7) (C 24) (C 4) (R 10) (C 20) (C 17) (n 0) (C 21) (C 19) (n 2) (C 15) (C 13) (C 18) (n 1) (xs (i + 1).toNatClampNeg) hf1) (cwV 1 hts lw_gX11_odds rfl rfl rfl (by decide +kernel) ⟨Nat.le_of_ble_eq_true rfl, Nat.le_of_ble_eq_true rfl⟩) hN hK hP hD hS hA [0, 10, 4, 22, 5, 23, 6, 24, 3, 20, 17, 21, 19, 15, 13, 18] (by decide +kernel) rfl rfl rfl rfl rfl rfl rfl hl.1 rfl (Nat.le_of_ble_eq_true rfl) dL_law_677 hf (fun H locs hP hD hS => ?_)
  rw [← List.append_assoc] at hP hD
  have hP := lw_swP hP
  have hD := lw_swD hD
  refine W.eq (g2 := F0 m 680 ls [.int z_a]) rfl ?_
  refine lv_aload_n hx hb dL_law_680 rfl (lv_at hl 1 rfl) ?_
  refine lv_aload_n hx hb dL_law_681 rfl (lv_at hl 3 rfl) ?_
  refine lv_iload_n hx hb dL_law_682 rfl (lv_at hl 0 rfl) ?_
  refine lv_iconst (v := 1) hx hb dL_law_683 (by decide) ?_
  refine lv_iadd hx hb dL_law_684 ?_
  refine va_sld hx hb hX hbl hbA hS hv1 dL_law_685 ?_
  refine lw_callV (As := [.int (xs (i + 1).toNatClampNeg)]) (rest := [.int z_a]) (ci := 12) (q0 := 0) (wa' := lw_wm cI cJ cZ mm Rm I J (va_up (va_up (va_up (va_up (va_up (va_up (va_up (va_up (va_up (va_up (va_up (A) 45 z_m_r1) 46 z_m_r2) 47 z_m_r3) 48 z_m_r4) 49 z_m_r5) 50 z_m_r6) 52 z_m_r7) 51 z_m_r8) 53 z_m_r9) 58 z_m_r10) 59 z_m_r12) (va_up (B) 57 z_m_r11)) ⟨hx, hb, hml, hown, hts⟩ (kX12_odds l dC dI cI cB cJ cZ cM s.heap.size ad N mm I J Rm (A 18) (A 45) (A 46) (A 47) (A 48) (A 49) (A 50) (A 52) (A 51) (A 53) (A 24) (A 58) (A 25) (B 57) (A 26) (A 27) (A 14) (A 21) (A 22) (A 59) (A 20) (A 17) (xs (i + 1).toNatClampNeg) hf2) (cwV 1 hts lw_gX12_odds rfl rfl rfl (by decide +kernel) ⟨Nat.le_of_ble_eq_true rfl, Nat.le_of_ble_eq_true rfl⟩) hN hK hP hD hS hA [0, 6, 25, 26, 27, 28, 29, 30, 32, 31, 33, 12, 35, 13, 34, 14, 15, 2, 9, 10, 36, 8, 5] (by decide +kernel) rfl rfl rfl rfl rfl rfl rfl hl.1 rfl (Nat.le_of_ble_eq_true rfl) dL_law_686 hf (fun H locs hP hD hS => ?_)
  have hP := lw_swP hP
  have hD := lw_swD hD
  refine W.eq (g2 := F0 m 689 ls [.int z_a, .int z_a]) rfl ?_
  refine lv_icmp_eq (tgt := 1029) hx hb dL_law_689 (by decide) (fun c_1 => ?_) (fun c_1 => absurd rfl c_1)
  exact kk _ _ _ (Nat.le_add_right _ _) ⟨R, S, Rm, (va_up (va_up (va_up (va_up (va_up C 22 z_c_r1) 23 z_c_r2) 24 z_c_r3) 20 z_c_r4) 21 z_c_r5), P, Q, V, n, I, J, (va_up (va_up (va_up (va_up (va_up (va_up (va_up (va_up (va_up (va_up (va_up (A) 45 z_m_r1) 46 z_m_r2) 47 z_m_r3) 48 z_m_r4) 49 z_m_r5) 50 z_m_r6) 52 z_m_r7) 51 z_m_r8) 53 z_m_r9) 58 z_m_r10) 59 z_m_r12), (va_up (B) 57 z_m_r11), hR1, hP, hD, hS⟩
set_option maxHeartbeats 4000000 in
set_option maxRecDepth 100000 in
theorem lwo_miles (h5 : 5000 ≤ N) (C0 : lw_At p s m meth c b L xs) (hN : xq_Env s.heap.size ad (fun q : Nat => s.heap.size ≤ q) s) (hK : va_K (dC, dI) vwCl (xq_tys cI cB cJ cZ cM) s) (hSt : lw_St dC dI cI cB cJ cZ cM s x mm t H locs) (hl : lv_has ls 4 [(3, .int i), (2, .ref mm), (1, .ref x), (0, .ref b)]) (hv1 : vp_in (i + 1) L) (hf : cells ≤ room_1.cells ∧ slots ≤ room_1.slots) (kk : ∀ (t' : Nat) (H' : Heap) (locs' : List Loc), t' ≤ t + 20 → lw_St dC dI cI cB cJ cZ cM s x mm t' H' locs' → W p l e room_1 s m #[Value.ref b] below meth c H' locs' cells slots (lw_Z below #[Value.ref b] s) (F0 m 1029 ls [])) : W p l e room_1 s m #[Value.ref b] below meth c H locs cells slots (lw_Z below #[Value.ref b] s) (F0 m 707 ls []) := by
  obtain ⟨hx, hb, hr, hml, hown, hts, hX, hbl, hlocks, hgv⟩ := C0
  have hown : s.vm.findClass RL = some m.cls := hown
  obtain ⟨R, S, Rm, C, P, Q, V, n, I, J, A, B, hR, hP, hD, hS⟩ := hSt
  have hA : ∀ q : Nat, s.heap.size ≤ q → (fun q : Nat => s.heap.size ≤ q) q := fun _ h => h
  have hbA : ¬ (fun q : Nat => s.heap.size ≤ q) b := Nat.not_le.mpr hbl
  obtain ⟨z_a, z_c_r1, z_c_r2, z_c_r3, z_c_r4, z_c_r5, z_c_r6, z_m_r1, z_m_r2, z_m_r3, z_m_r4, z_m_r5, z_m_r6, z_m_r7, z_m_r8, z_m_r9, z_m_r10, z_m_r11, z_m_r12, z_m_r13, z_m_r14, hf1, hf2, hR1⟩ := x_miles N h5 hR (xs (i + 1).toNatClampNeg)
  refine lv_aload_n hx hb dL_law_707 rfl (lv_at hl 2 rfl) ?_
  refine lv_aload_n hx hb dL_law_708 rfl (lv_at hl 3 rfl) ?_
  refine lv_iload_n hx hb dL_law_709 rfl (lv_at hl 0 rfl) ?_
  refine lv_iconst (v := 1) hx hb dL_law_710 (by decide) ?_
  refine lv_iadd hx hb dL_law_711 ?_
  refine va_sld hx hb hX hbl hbA hS hv1 dL_law_712 ?_
  rw [List.append_assoc] at hP hD
  refine lw_callV (As := [.int (xs (i + 1).toNatClampNeg)]) (rest := []) (ci := 11) (q0 := 0) (wa' := lw_wc cI cB x R (va_up (va_up (va_up (va_up (va_up (va_up C 22 z_c_r1) 23 z_c_r2) 24 z_c_r3) 25 z_c_r4) 20 z_c_r5) 21 z_c_r6) n) ⟨hx, hb, hml, hown, hts⟩ (kX11_miles l dC dI cI cB cJ cZ cM s.heap.size ad N x (C 0) (R 0) (C 10) (R 9) (C 9) (R 6) (C 30) (C 5) (R 2) (C 22) (R 3) (C 6) (C 23) (C 7) (C 24) (C 25) (C 4) (R 10) (C 20) (C 17) (n 0) (C 21) (C 19) (n 2) (C 15) (C 13) (C 18) (n 1) (C 31) (C 32) (xs (i + 1).toNatClampNeg) hf1) (cwV 1 hts lw_gX11_miles rfl rfl rfl (by decide +kernel) ⟨Nat.le_of_ble_eq_true rfl, Nat.le_of_ble_eq_true rfl⟩) hN hK hP hD hS hA [0, 10, 8, 30, 4, 22, 5, 23, 6, 24, 25, 3, 20, 17, 21, 19, 15, 13, 18, 31, 32] (by decide +kernel) rfl rfl rfl rfl rfl rfl rfl hl.1 rfl (Nat.le_of_ble_eq_true rfl) dL_law_713 hf (fun H locs hP hD hS => ?_)
  rw [← List.append_assoc] at hP hD
  have hP := lw_swP hP
  have hD := lw_swD hD
  refine W.eq (g2 := F0 m 716 ls [.int z_a]) rfl ?_
  refine lv_aload_n hx hb dL_law_716 rfl (lv_at hl 1 rfl) ?_
  refine lv_aload_n hx hb dL_law_717 rfl (lv_at hl 3 rfl) ?_
  refine lv_iload_n hx hb dL_law_718 rfl (lv_at hl 0 rfl) ?_
  refine lv_iconst (v := 1) hx hb dL_law_719 (by decide) ?_
  refine lv_iadd hx hb dL_law_720 ?_
  refine va_sld hx hb hX hbl hbA hS hv1 dL_law_721 ?_
  refine lw_callV (As := [.int (xs (i + 1).toNatClampNeg)]) (rest := [.int z_a]) (ci := 12) (q0 := 0) (wa' := lw_wm cI cJ cZ mm Rm I J (va_up (va_up (va_up (va_up (va_up (va_up (va_up (va_up (va_up (va_up (va_up (va_up (va_up (A) 45 z_m_r1) 46 z_m_r2) 47 z_m_r3) 48 z_m_r4) 49 z_m_r5) 50 z_m_r6) 52 z_m_r7) 51 z_m_r8) 53 z_m_r9) 58 z_m_r10) 59 z_m_r12) 66 z_m_r13) 67 z_m_r14) (va_up (B) 57 z_m_r11)) ⟨hx, hb, hml, hown, hts⟩ (kX12_miles l dC dI cI cB cJ cZ cM s.heap.size ad N mm I J Rm (A 14) (A 45) (A 46) (A 47) (A 48) (A 49) (A 50) (A 52) (A 51) (A 53) (A 24) (A 58) (A 25) (B 57) (A 26) (A 27) (A 21) (A 22) (A 18) (A 59) (A 20) (A 66) (A 63) (A 64) (A 65) (A 67) (xs (i + 1).toNatClampNeg) hf2) (cwV 1 hts lw_gX12_miles rfl rfl rfl (by decide +kernel) ⟨Nat.le_of_ble_eq_true rfl, Nat.le_of_ble_eq_true rfl⟩) hN hK hP hD hS hA [0, 2, 25, 26, 27, 28, 29, 30, 32, 31, 33, 12, 35, 13, 34, 14, 15, 9, 10, 6, 36, 8, 42, 39, 40, 41, 43] (by decide +kernel) rfl rfl rfl rfl rfl rfl rfl hl.1 rfl (Nat.le_of_ble_eq_true rfl) dL_law_722 hf (fun H locs hP hD hS => ?_)
  have hP := lw_swP hP
  have hD := lw_swD hD
  refine W.eq (g2 := F0 m 725 ls [.int z_a, .int z_a]) rfl ?_
  refine lv_icmp_eq (tgt := 1029) hx hb dL_law_725 (by decide) (fun c_1 => ?_) (fun c_1 => absurd rfl c_1)
  exact kk _ _ _ (Nat.le_add_right _ _) ⟨R, S, Rm, (va_up (va_up (va_up (va_up (va_up (va_up C 22 z_c_r1) 23 z_c_r2) 24 z_c_r3) 25 z_c_r4) 20 z_c_r5) 21 z_c_r6), P, Q, V, n, I, J, (va_up (va_up (va_up (va_up (va_up (va_up (va_up (va_up (va_up (va_up (va_up (va_up (va_up (A) 45 z_m_r1) 46 z_m_r2) 47 z_m_r3) 48 z_m_r4) 49 z_m_r5) 50 z_m_r6) 52 z_m_r7) 51 z_m_r8) 53 z_m_r9) 58 z_m_r10) 59 z_m_r12) 66 z_m_r13) 67 z_m_r14), (va_up (B) 57 z_m_r11), hR1, hP, hD, hS⟩
set_option maxHeartbeats 4000000 in
set_option maxRecDepth 100000 in
theorem lwo_tells (h5 : 5000 ≤ N) (C0 : lw_At p s m meth c b L xs) (hN : xq_Env s.heap.size ad (fun q : Nat => s.heap.size ≤ q) s) (hK : va_K (dC, dI) vwCl (xq_tys cI cB cJ cZ cM) s) (hSt : lw_St dC dI cI cB cJ cZ cM s x mm t H locs) (hl : lv_has ls 4 [(3, .int i), (2, .ref mm), (1, .ref x), (0, .ref b)]) (hv1 : vp_in (i + 1) L) (hf : cells ≤ room_1.cells ∧ slots ≤ room_1.slots) (kk : ∀ (t' : Nat) (H' : Heap) (locs' : List Loc), t' ≤ t + 20 → lw_St dC dI cI cB cJ cZ cM s x mm t' H' locs' → W p l e room_1 s m #[Value.ref b] below meth c H' locs' cells slots (lw_Z below #[Value.ref b] s) (F0 m 1029 ls [])) : W p l e room_1 s m #[Value.ref b] below meth c H locs cells slots (lw_Z below #[Value.ref b] s) (F0 m 730 ls []) := by
  obtain ⟨hx, hb, hr, hml, hown, hts, hX, hbl, hlocks, hgv⟩ := C0
  have hown : s.vm.findClass RL = some m.cls := hown
  obtain ⟨R, S, Rm, C, P, Q, V, n, I, J, A, B, hR, hP, hD, hS⟩ := hSt
  have hA : ∀ q : Nat, s.heap.size ≤ q → (fun q : Nat => s.heap.size ≤ q) q := fun _ h => h
  have hbA : ¬ (fun q : Nat => s.heap.size ≤ q) b := Nat.not_le.mpr hbl
  obtain ⟨z_a, z_c_r1, z_c_r2, z_c_r3, z_c_r4, z_c_r5, z_c_r6, z_c_r7, z_m_r1, z_m_r2, z_m_r3, z_m_r4, z_m_r5, z_m_r6, z_m_r7, z_m_r8, z_m_r9, z_m_r10, z_m_r11, z_m_r12, z_m_r13, z_m_r14, hf1, hf2, hR1⟩ := x_tells N h5 hR (xs (i + 1).toNatClampNeg)
  refine lv_aload_n hx hb dL_law_730 rfl (lv_at hl 2 rfl) ?_
  refine lv_aload_n hx hb dL_law_731 rfl (lv_at hl 3 rfl) ?_
  refine lv_iload_n hx hb dL_law_732 rfl (lv_at hl 0 rfl) ?_
  refine lv_iconst (v := 1) hx hb dL_law_733 (by decide) ?_
  refine lv_iadd hx hb dL_law_734 ?_
  refine va_sld hx hb hX hbl hbA hS hv1 dL_law_735 ?_
  rw [List.append_assoc] at hP hD
  refine lw_callV (As := [.int (xs (i + 1).toNatClampNeg)]) (rest := []) (ci := 11) (q0 := 0) (wa' := lw_wc cI cB x R (va_up (va_up (va_up (va_up (va_up (va_up (va_up C 33 z_c_r1) 22 z_c_r2) 23 z_c_r3) 24 z_c_r4) 25 z_c_r5) 20 z_c_r6) 21 z_c_r7) n) ⟨hx, hb, hml, hown, hts⟩ (kX11_tells l dC dI cI cB cJ cZ cM s.heap.size ad N x (C 0) (R 0) (C 5) (R 2) (C 10) (R 9) (C 33) (C 22) (R 3) (C 6) (C 23) (C 7) (C 24) (C 25) (C 4) (R 10) (C 20) (C 17) (n 0) (C 21) (C 19) (n 2) (C 15) (C 13) (C 18) (n 1) (C 9) (R 6) (C 30) (C 31) (C 32) (xs (i + 1).toNatClampNeg) hf1) (cwV 1 hts lw_gX11_tells rfl rfl rfl (by decide +kernel) ⟨Nat.le_of_ble_eq_true rfl, Nat.le_of_ble_eq_true rfl⟩) hN hK hP hD hS hA [0, 4, 10, 33, 22, 5, 23, 6, 24, 25, 3, 20, 17, 21, 19, 15, 13, 18, 8, 30, 31, 32] (by decide +kernel) rfl rfl rfl rfl rfl rfl rfl hl.1 rfl (Nat.le_of_ble_eq_true rfl) dL_law_736 hf (fun H locs hP hD hS => ?_)
  rw [← List.append_assoc] at hP hD
  have hP := lw_swP hP
  have hD := lw_swD hD
  refine W.eq (g2 := F0 m 739 ls [.int z_a]) rfl ?_
  refine lv_aload_n hx hb dL_law_739 rfl (lv_at hl 1 rfl) ?_
  refine lv_aload_n hx hb dL_law_740 rfl (lv_at hl 3 rfl) ?_
  refine lv_iload_n hx hb dL_law_741 rfl (lv_at hl 0 rfl) ?_
  refine lv_iconst (v := 1) hx hb dL_law_742 (by decide) ?_
  refine lv_iadd hx hb dL_law_743 ?_
  refine va_sld hx hb hX hbl hbA hS hv1 dL_law_744 ?_
  refine lw_callV (As := [.int (xs (i + 1).toNatClampNeg)]) (rest := [.int z_a]) (ci := 12) (q0 := 0) (wa' := lw_wm cI cJ cZ mm Rm I J (va_up (va_up (va_up (va_up (va_up (va_up (va_up (va_up (va_up (va_up (va_up (va_up (va_up (A) 45 z_m_r1) 46 z_m_r2) 47 z_m_r3) 48 z_m_r4) 49 z_m_r5) 50 z_m_r6) 52 z_m_r7) 51 z_m_r8) 53 z_m_r9) 58 z_m_r10) 59 z_m_r12) 66 z_m_r13) 67 z_m_r14) (va_up (B) 57 z_m_r11)) ⟨hx, hb, hml, hown, hts⟩ (kX12_tells l dC dI cI cB cJ cZ cM s.heap.size ad N mm I J Rm (A 14) (A 45) (A 46) (A 47) (A 48) (A 49) (A 50) (A 52) (A 51) (A 53) (A 24) (A 58) (A 25) (B 57) (A 26) (A 27) (A 21) (A 22) (A 18) (A 59) (A 20) (A 66) (A 63) (A 64) (A 65) (A 67) (xs (i + 1).toNatClampNeg) hf2) (cwV 1 hts lw_gX12_tells rfl rfl rfl (by decide +kernel) ⟨Nat.le_of_ble_eq_true rfl, Nat.le_of_ble_eq_true rfl⟩) hN hK hP hD hS hA [0, 2, 25, 26, 27, 28, 29, 30, 32, 31, 33, 12, 35, 13, 34, 14, 15, 9, 10, 6, 36, 8, 42, 39, 40, 41, 43] (by decide +kernel) rfl rfl rfl rfl rfl rfl rfl hl.1 rfl (Nat.le_of_ble_eq_true rfl) dL_law_745 hf (fun H locs hP hD hS => ?_)
  have hP := lw_swP hP
  have hD := lw_swD hD
  refine W.eq (g2 := F0 m 748 ls [.int z_a, .int z_a]) rfl ?_
  refine lv_icmp_eq (tgt := 1029) hx hb dL_law_748 (by decide) (fun c_1 => ?_) (fun c_1 => absurd rfl c_1)
  exact kk _ _ _ (Nat.le_add_right _ _) ⟨R, S, Rm, (va_up (va_up (va_up (va_up (va_up (va_up (va_up C 33 z_c_r1) 22 z_c_r2) 23 z_c_r3) 24 z_c_r4) 25 z_c_r5) 20 z_c_r6) 21 z_c_r7), P, Q, V, n, I, J, (va_up (va_up (va_up (va_up (va_up (va_up (va_up (va_up (va_up (va_up (va_up (va_up (va_up (A) 45 z_m_r1) 46 z_m_r2) 47 z_m_r3) 48 z_m_r4) 49 z_m_r5) 50 z_m_r6) 52 z_m_r7) 51 z_m_r8) 53 z_m_r9) 58 z_m_r10) 59 z_m_r12) 66 z_m_r13) 67 z_m_r14), (va_up (B) 57 z_m_r11), hR1, hP, hD, hS⟩
end
