/-! cases of the law's switch -/
section
variable {p : Program} {l : Launch} {e : Env} {s : State} {m : MethodId} {below : List Frame} {meth : Method} {c : Code} {b L : Nat} {xs : Nat → Int32} {dC : Nat → ClassId} {dI : Nat → Nat → Nat} {cI cB cJ cZ cM : ClassId} {ad : Nat → Nat} {x mm t : Nat} {H : Heap} {locs : List Loc} {cells slots : Nat} {ls : Array Slot} {i : Int32} (N : Nat)
set_option maxHeartbeats 4000000 in
set_option maxRecDepth 100000 in
theorem lwo_fault (h5 : 5000 ≤ N) (C0 : lw_At p s m meth c b L xs) (hN : xq_Env s.heap.size ad (fun q : Nat => s.heap.size ≤ q) s) (hK : va_K (dC, dI) vwCl (xq_tys cI cB cJ cZ cM) s) (hSt : lw_St dC dI cI cB cJ cZ cM s x mm t H locs) (hl : lv_has ls 4 [(3, .int i), (2, .ref mm), (1, .ref x), (0, .ref b)]) (hv1 : vp_in (i + 1) L) (hf : cells ≤ room_1.cells ∧ slots ≤ room_1.slots) (kk : ∀ (t' : Nat) (H' : Heap) (locs' : List Loc), t' ≤ t + 20 → lw_St dC dI cI cB cJ cZ cM s x mm t' H' locs' → W p l e room_1 s m #[Value.ref b] below meth c H' locs' cells slots (lw_Z below #[Value.ref b] s) (F0 m 1029 ls [])) : W p l e room_1 s m #[Value.ref b] below meth c H locs cells slots (lw_Z below #[Value.ref b] s) (F0 m 279 ls []) := by
  obtain ⟨hx, hb, hr, hml, hown, hts, hX, hbl, hlocks, hgv⟩ := C0
  have hown : s.vm.findClass RL = some m.cls := hown
  obtain ⟨R, S, Rm, C, P, Q, V, n, I, J, A, B, hR, hP, hD, hS⟩ := hSt
  have hA : ∀ q : Nat, s.heap.size ≤ q → (fun q : Nat => s.heap.size ≤ q) q := fun _ h => h
  have hbA : ¬ (fun q : Nat => s.heap.size ≤ q) b := Nat.not_le.mpr hbl
  obtain ⟨z_a, hf1, hf2⟩ := x_fault N hR (xs (i + 1).toNatClampNeg)
  refine lv_aload_n hx hb dL_law_279 rfl (lv_at hl 2 rfl) ?_
  refine lv_aload_n hx hb dL_law_280 rfl (lv_at hl 3 rfl) ?_
  refine lv_iload_n hx hb dL_law_281 rfl (lv_at hl 0 rfl) ?_
  refine lv_iconst (v := 1) hx hb dL_law_282 (by decide) ?_
  refine lv_iadd hx hb dL_law_283 ?_
  refine va_sld hx hb hX hbl hbA hS hv1 dL_law_284 ?_
  rw [List.append_assoc] at hP hD
  refine lw_callV (As := [.int (xs (i + 1).toNatClampNeg)]) (rest := []) (ci := 11) (q0 := 0) (wa' := lw_wc cI cB x R C n) ⟨hx, hb, hml, hown, hts⟩ (kX11_fault l dC dI cI cB cJ cZ cM s.heap.size ad N x (C 0) (R 0) (xs (i + 1).toNatClampNeg) hf1) (cwV 1 hts lw_gX11_fault rfl rfl rfl (by decide +kernel) ⟨Nat.le_of_ble_eq_true rfl, Nat.le_of_ble_eq_true rfl⟩) hN hK hP hD hS hA [0] (by decide +kernel) rfl rfl rfl rfl rfl rfl rfl hl.1 rfl (Nat.le_of_ble_eq_true rfl) dL_law_285 hf (fun H locs hP hD hS => ?_)
  rw [← List.append_assoc] at hP hD
  have hP := lw_swP hP
  have hD := lw_swD hD
  refine W.eq (g2 := F0 m 288 ls [.int z_a]) rfl ?_
  refine lv_aload_n hx hb dL_law_288 rfl (lv_at hl 1 rfl) ?_
  refine lv_aload_n hx hb dL_law_289 rfl (lv_at hl 3 rfl) ?_
  refine lv_iload_n hx hb dL_law_290 rfl (lv_at hl 0 rfl) ?_
  refine lv_iconst (v := 1) hx hb dL_law_291 (by decide) ?_
  refine lv_iadd hx hb dL_law_292 ?_
  refine va_sld hx hb hX hbl hbA hS hv1 dL_law_293 ?_
  refine lw_callV (As := [.int (xs (i + 1).toNatClampNeg)]) (rest := [.int z_a]) (ci := 12) (q0 := 0) (wa' := lw_wm cI cJ cZ mm Rm I J A B) ⟨hx, hb, hml, hown, hts⟩ (kX12_fault l dC dI cI cB cJ cZ cM s.heap.size ad N mm I J Rm (xs (i + 1).toNatClampNeg) hf2) (cwV 1 hts lw_gX12_fault rfl rfl rfl (by decide +kernel) ⟨Nat.le_of_ble_eq_true rfl, Nat.le_of_ble_eq_true rfl⟩) hN hK hP hD hS hA [0] (by decide +kernel) rfl rfl rfl rfl rfl rfl rfl hl.1 rfl (Nat.le_of_ble_eq_true rfl) dL_law_294 hf (fun H locs hP hD hS => ?_)
  have hP := lw_swP hP
  have hD := lw_swD hD
  refine W.eq (g2 := F0 m 297 ls [.int z_a, .int z_a]) rfl ?_
  refine lv_icmp_eq (tgt := 1029) hx hb dL_law_297 (by decide) (fun c_1 => ?_) (fun c_1 => absurd rfl c_1)
  exact kk _ _ _ (Nat.le_add_right _ _) ⟨R, S, Rm, C, P, Q, V, n, I, J, A, B, hR, hP, hD, hS⟩
set_option maxHeartbeats 4000000 in
set_option maxRecDepth 100000 in
theorem lwo_has (h5 : 5000 ≤ N) (C0 : lw_At p s m meth c b L xs) (hN : xq_Env s.heap.size ad (fun q : Nat => s.heap.size ≤ q) s) (hK : va_K (dC, dI) vwCl (xq_tys cI cB cJ cZ cM) s) (hSt : lw_St dC dI cI cB cJ cZ cM s x mm t H locs) (hl : lv_has ls 4 [(3, .int i), (2, .ref mm), (1, .ref x), (0, .ref b)]) (hv1 : vp_in (i + 1) L) (hf : cells ≤ room_1.cells ∧ slots ≤ room_1.slots) (kk : ∀ (t' : Nat) (H' : Heap) (locs' : List Loc), t' ≤ t + 20 → lw_St dC dI cI cB cJ cZ cM s x mm t' H' locs' → W p l e room_1 s m #[Value.ref b] below meth c H' locs' cells slots (lw_Z below #[Value.ref b] s) (F0 m 1029 ls [])) : W p l e room_1 s m #[Value.ref b] below meth c H locs cells slots (lw_Z below #[Value.ref b] s) (F0 m 302 ls []) := by
  obtain ⟨hx, hb, hr, hml, hown, hts, hX, hbl, hlocks, hgv⟩ := C0
  have hown : s.vm.findClass RL = some m.cls := hown
  obtain ⟨R, S, Rm, C, P, Q, V, n, I, J, A, B, hR, hP, hD, hS⟩ := hSt
  have hA : ∀ q : Nat, s.heap.size ≤ q → (fun q : Nat => s.heap.size ≤ q) q := fun _ h => h
  have hbA : ¬ (fun q : Nat => s.heap.size ≤ q) b := Nat.not_le.mpr hbl
  obtain ⟨z_a, hf1, hf2⟩ := x_has N hR (xs (i + 1).toNatClampNeg)
  refine lv_aload_n hx hb dL_law_302 rfl (lv_at hl 2 rfl) ?_
  refine lv_aload_n hx hb dL_law_303 rfl (lv_at hl 3 rfl) ?_
  refine lv_iload_n hx hb dL_law_304 rfl (lv_at hl 0 rfl) ?_
  refine lv_iconst (v := 1) hx hb dL_law_305 (by decide) ?_
  refine lv_iadd hx hb dL_law_306 ?_
  refine va_sld hx hb hX hbl hbA hS hv1 dL_law_307 ?_
  rw [List.append_assoc] at hP hD
  refine lw_callV (As := [.int (xs (i + 1).toNatClampNeg)]) (rest := []) (ci := 11) (q0 := 0) (wa' := lw_wc cI cB x R C n) ⟨hx, hb, hml, hown, hts⟩ (kX11_has l dC dI cI cB cJ cZ cM s.heap.size ad N x (C 0) (R 0) (C 10) (R 9) (C 5) (R 2) (C 9) (R 6) (C 8) (R 4) (xs (i + 1).toNatClampNeg) hf1) (cwV 1 hts lw_gX11_has rfl rfl rfl (by decide +kernel) ⟨Nat.le_of_ble_eq_true rfl, Nat.le_of_ble_eq_true rfl⟩) hN hK hP hD hS hA [0, 10, 4, 8, 7] (by decide +kernel) rfl rfl rfl rfl rfl rfl rfl hl.1 rfl (Nat.le_of_ble_eq_true rfl) dL_law_308 hf (fun H locs hP hD hS => ?_)
  rw [← List.append_assoc] at hP hD
  have hP := lw_swP hP
  have hD := lw_swD hD
  refine W.eq (g2 := F0 m 311 ls [.int z_a]) rfl ?_
  refine lv_aload_n hx hb dL_law_311 rfl (lv_at hl 1 rfl) ?_
  refine lv_aload_n hx hb dL_law_312 rfl (lv_at hl 3 rfl) ?_
  refine lv_iload_n hx hb dL_law_313 rfl (lv_at hl 0 rfl) ?_
  refine lv_iconst (v := 1) hx hb dL_law_314 (by decide) ?_
  refine lv_iadd hx hb dL_law_315 ?_
  refine va_sld hx hb hX hbl hbA hS hv1 dL_law_316 ?_
  refine lw_callV (As := [.int (xs (i + 1).toNatClampNeg)]) (rest := [.int z_a]) (ci := 12) (q0 := 0) (wa' := lw_wm cI cJ cZ mm Rm I J A B) ⟨hx, hb, hml, hown, hts⟩ (kX12_has l dC dI cI cB cJ cZ cM s.heap.size ad N mm I J Rm (A 14) (A 18) (A 21) (A 45) (A 46) (A 47) (A 48) (A 49) (A 52) (xs (i + 1).toNatClampNeg) hf2) (cwV 1 hts lw_gX12_has rfl rfl rfl (by decide +kernel) ⟨Nat.le_of_ble_eq_true rfl, Nat.le_of_ble_eq_true rfl⟩) hN hK hP hD hS hA [0, 2, 6, 9, 25, 26, 27, 28, 29, 32] (by decide +kernel) rfl rfl rfl rfl rfl rfl rfl hl.1 rfl (Nat.le_of_ble_eq_true rfl) dL_law_317 hf (fun H locs hP hD hS => ?_)
  have hP := lw_swP hP
  have hD := lw_swD hD
  refine W.eq (g2 := F0 m 320 ls [.int z_a, .int z_a]) rfl ?_
  refine lv_icmp_eq (tgt := 1029) hx hb dL_law_320 (by decide) (fun c_1 => ?_) (fun c_1 => absurd rfl c_1)
  exact kk _ _ _ (Nat.le_add_right _ _) ⟨R, S, Rm, C, P, Q, V, n, I, J, A, B, hR, hP, hD, hS⟩
set_option maxHeartbeats 4000000 in
set_option maxRecDepth 100000 in
theorem lwo_status (h5 : 5000 ≤ N) (C0 : lw_At p s m meth c b L xs) (hN : xq_Env s.heap.size ad (fun q : Nat => s.heap.size ≤ q) s) (hK : va_K (dC, dI) vwCl (xq_tys cI cB cJ cZ cM) s) (hSt : lw_St dC dI cI cB cJ cZ cM s x mm t H locs) (hl : lv_has ls 4 [(3, .int i), (2, .ref mm), (1, .ref x), (0, .ref b)]) (hv1 : vp_in (i + 1) L) (hf : cells ≤ room_1.cells ∧ slots ≤ room_1.slots) (kk : ∀ (t' : Nat) (H' : Heap) (locs' : List Loc), t' ≤ t + 20 → lw_St dC dI cI cB cJ cZ cM s x mm t' H' locs' → W p l e room_1 s m #[Value.ref b] below meth c H' locs' cells slots (lw_Z below #[Value.ref b] s) (F0 m 1029 ls [])) : W p l e room_1 s m #[Value.ref b] below meth c H locs cells slots (lw_Z below #[Value.ref b] s) (F0 m 1006 ls []) := by
  obtain ⟨hx, hb, hr, hml, hown, hts, hX, hbl, hlocks, hgv⟩ := C0
  have hown : s.vm.findClass RL = some m.cls := hown
  obtain ⟨R, S, Rm, C, P, Q, V, n, I, J, A, B, hR, hP, hD, hS⟩ := hSt
  have hA : ∀ q : Nat, s.heap.size ≤ q → (fun q : Nat => s.heap.size ≤ q) q := fun _ h => h
  have hbA : ¬ (fun q : Nat => s.heap.size ≤ q) b := Nat.not_le.mpr hbl
  obtain ⟨z_a, hf1, hf2⟩ := x_status N hR (xs (i + 1).toNatClampNeg)
  refine lv_aload_n hx hb dL_law_1006 rfl (lv_at hl 2 rfl) ?_
  refine lv_aload_n hx hb dL_law_1007 rfl (lv_at hl 3 rfl) ?_
  refine lv_iload_n hx hb dL_law_1008 rfl (lv_at hl 0 rfl) ?_
  refine lv_iconst (v := 1) hx hb dL_law_1009 (by decide) ?_
  refine lv_iadd hx hb dL_law_1010 ?_
  refine va_sld hx hb hX hbl hbA hS hv1 dL_law_1011 ?_
  rw [List.append_assoc] at hP hD
  refine lw_callV (As := [.int (xs (i + 1).toNatClampNeg)]) (rest := []) (ci := 11) (q0 := 0) (wa' := lw_wc cI cB x R C n) ⟨hx, hb, hml, hown, hts⟩ (kX11_status l dC dI cI cB cJ cZ cM s.heap.size ad N x (C 0) (R 0) (C 3) (xs (i + 1).toNatClampNeg) hf1) (cwV 1 hts lw_gX11_status rfl rfl rfl (by decide +kernel) ⟨Nat.le_of_ble_eq_true rfl, Nat.le_of_ble_eq_true rfl⟩) hN hK hP hD hS hA [0, 9] (by decide +kernel) rfl rfl rfl rfl rfl rfl rfl hl.1 rfl (Nat.le_of_ble_eq_true rfl) dL_law_1012 hf (fun H locs hP hD hS => ?_)
  rw [← List.append_assoc] at hP hD
  have hP := lw_swP hP
  have hD := lw_swD hD
  refine W.eq (g2 := F0 m 1015 ls [.int z_a]) rfl ?_
  refine lv_aload_n hx hb dL_law_1015 rfl (lv_at hl 1 rfl) ?_
  refine lv_aload_n hx hb dL_law_1016 rfl (lv_at hl 3 rfl) ?_
  refine lv_iload_n hx hb dL_law_1017 rfl (lv_at hl 0 rfl) ?_
  refine lv_iconst (v := 1) hx hb dL_law_1018 (by decide) ?_
  refine lv_iadd hx hb dL_law_1019 ?_
  refine va_sld hx hb hX hbl hbA hS hv1 dL_law_1020 ?_
  refine lw_callV (As := [.int (xs (i + 1).toNatClampNeg)]) (rest := [.int z_a]) (ci := 12) (q0 := 0) (wa' := lw_wm cI cJ cZ mm Rm I J A B) ⟨hx, hb, hml, hown, hts⟩ (kX12_status l dC dI cI cB cJ cZ cM s.heap.size ad N mm I J Rm (A 44) (xs (i + 1).toNatClampNeg) hf2) (cwV 1 hts lw_gX12_status rfl rfl rfl (by decide +kernel) ⟨Nat.le_of_ble_eq_true rfl, Nat.le_of_ble_eq_true rfl⟩) hN hK hP hD hS hA [0, 24] (by decide +kernel) rfl rfl rfl rfl rfl rfl rfl hl.1 rfl (Nat.le_of_ble_eq_true rfl) dL_law_1021 hf (fun H locs hP hD hS => ?_)
  have hP := lw_swP hP
  have hD := lw_swD hD
  refine W.eq (g2 := F0 m 1024 ls [.int z_a, .int z_a]) rfl ?_
  refine lv_icmp_eq (tgt := 1029) hx hb dL_law_1024 (by decide) (fun c_1 => ?_) (fun c_1 => absurd rfl c_1)
  exact kk _ _ _ (Nat.le_add_right _ _) ⟨R, S, Rm, C, P, Q, V, n, I, J, A, B, hR, hP, hD, hS⟩
set_option maxHeartbeats 4000000 in
set_option maxRecDepth 100000 in
theorem lwo_octet (h5 : 5000 ≤ N) (C0 : lw_At p s m meth c b L xs) (hN : xq_Env s.heap.size ad (fun q : Nat => s.heap.size ≤ q) s) (hK : va_K (dC, dI) vwCl (xq_tys cI cB cJ cZ cM) s) (hSt : lw_St dC dI cI cB cJ cZ cM s x mm t H locs) (hl : lv_has ls 4 [(3, .int i), (2, .ref mm), (1, .ref x), (0, .ref b)]) (hv1 : vp_in (i + 1) L) (hf : cells ≤ room_1.cells ∧ slots ≤ room_1.slots) (kk : ∀ (t' : Nat) (H' : Heap) (locs' : List Loc), t' ≤ t + 20 → lw_St dC dI cI cB cJ cZ cM s x mm t' H' locs' → W p l e room_1 s m #[Value.ref b] below meth c H' locs' cells slots (lw_Z below #[Value.ref b] s) (F0 m 1029 ls [])) : W p l e room_1 s m #[Value.ref b] below meth c H locs cells slots (lw_Z below #[Value.ref b] s) (F0 m 970 ls []) := by
  obtain ⟨hx, hb, hr, hml, hown, hts, hX, hbl, hlocks, hgv⟩ := C0
  have hown : s.vm.findClass RL = some m.cls := hown
  obtain ⟨R, S, Rm, C, P, Q, V, n, I, J, A, B, hR, hP, hD, hS⟩ := hSt
  have hA : ∀ q : Nat, s.heap.size ≤ q → (fun q : Nat => s.heap.size ≤ q) q := fun _ h => h
  have hbA : ¬ (fun q : Nat => s.heap.size ≤ q) b := Nat.not_le.mpr hbl
  obtain ⟨z_a, hf1, hf2⟩ := x_octet N hR (xs (i + 1).toNatClampNeg)
  refine lv_aload_n hx hb dL_law_970 rfl (lv_at hl 2 rfl) ?_
  refine lv_aload_n hx hb dL_law_971 rfl (lv_at hl 3 rfl) ?_
  refine lv_iload_n hx hb dL_law_972 rfl (lv_at hl 0 rfl) ?_
  refine lv_iconst (v := 1) hx hb dL_law_973 (by decide) ?_
  refine lv_iadd hx hb dL_law_974 ?_
  refine va_sld hx hb hX hbl hbA hS hv1 dL_law_975 ?_
  rw [List.append_assoc] at hP hD
  refine lw_callV (As := [.int (xs (i + 1).toNatClampNeg)]) (rest := []) (ci := 11) (q0 := 0) (wa' := lw_wc cI cB x R C n) ⟨hx, hb, hml, hown, hts⟩ (kX11_octet l dC dI cI cB cJ cZ cM s.heap.size ad N x (C 0) (R 0) (C 35) (R 8) (C 36) (xs (i + 1).toNatClampNeg) hf1) (cwV 1 hts lw_gX11_octet rfl rfl rfl (by decide +kernel) ⟨Nat.le_of_ble_eq_true rfl, Nat.le_of_ble_eq_true rfl⟩) hN hK hP hD hS hA [0, 35, 36] (by decide +kernel) rfl rfl rfl rfl rfl rfl rfl hl.1 rfl (Nat.le_of_ble_eq_true rfl) dL_law_976 hf (fun H locs hP hD hS => ?_)
  rw [← List.append_assoc] at hP hD
  have hP := lw_swP hP
  have hD := lw_swD hD
  refine W.eq (g2 := F0 m 979 ls [.int z_a]) rfl ?_
  refine lv_aload_n hx hb dL_law_979 rfl (lv_at hl 1 rfl) ?_
  refine lv_aload_n hx hb dL_law_980 rfl (lv_at hl 3 rfl) ?_
  refine lv_iload_n hx hb dL_law_981 rfl (lv_at hl 0 rfl) ?_
  refine lv_iconst (v := 1) hx hb dL_law_982 (by decide) ?_
  refine lv_iadd hx hb dL_law_983 ?_
  refine va_sld hx hb hX hbl hbA hS hv1 dL_law_984 ?_
  refine lw_callV (As := [.int (xs (i + 1).toNatClampNeg)]) (rest := [.int z_a]) (ci := 12) (q0 := 0) (wa' := lw_wm cI cJ cZ mm Rm I J A B) ⟨hx, hb, hml, hown, hts⟩ (kX12_octet l dC dI cI cB cJ cZ cM s.heap.size ad N mm I J Rm (A 68) (xs (i + 1).toNatClampNeg) hf2) (cwV 1 hts lw_gX12_octet rfl rfl rfl (by decide +kernel) ⟨Nat.le_of_ble_eq_true rfl, Nat.le_of_ble_eq_true rfl⟩) hN hK hP hD hS hA [0, 44] (by decide +kernel) rfl rfl rfl rfl rfl rfl rfl hl.1 rfl (Nat.le_of_ble_eq_true rfl) dL_law_985 hf (fun H locs hP hD hS => ?_)
  have hP := lw_swP hP
  have hD := lw_swD hD
  refine W.eq (g2 := F0 m 988 ls [.int z_a, .int z_a]) rfl ?_
  refine lv_icmp_eq (tgt := 1029) hx hb dL_law_988 (by decide) (fun c_1 => ?_) (fun c_1 => absurd rfl c_1)
  exact kk _ _ _ (Nat.le_add_right _ _) ⟨R, S, Rm, C, P, Q, V, n, I, J, A, B, hR, hP, hD, hS⟩
set_option maxHeartbeats 4000000 in
set_option maxRecDepth 100000 in
theorem lwo_kept (h5 : 5000 ≤ N) (C0 : lw_At p s m meth c b L xs) (hN : xq_Env s.heap.size ad (fun q : Nat => s.heap.size ≤ q) s) (hK : va_K (dC, dI) vwCl (xq_tys cI cB cJ cZ cM) s) (hSt : lw_St dC dI cI cB cJ cZ cM s x mm t H locs) (hl : lv_has ls 4 [(3, .int i), (2, .ref mm), (1, .ref x), (0, .ref b)]) (hv1 : vp_in (i + 1) L) (hv2 : vp_in (i + 2) L) (hf : cells ≤ room_1.cells ∧ slots ≤ room_1.slots) (kk : ∀ (t' : Nat) (H' : Heap) (locs' : List Loc), t' ≤ t + 20 → lw_St dC dI cI cB cJ cZ cM s x mm t' H' locs' → W p l e room_1 s m #[Value.ref b] below meth c H' locs' cells slots (lw_Z below #[Value.ref b] s) (F0 m 1029 ls [])) : W p l e room_1 s m #[Value.ref b] below meth c H locs cells slots (lw_Z below #[Value.ref b] s) (F0 m 924 ls []) := by
  obtain ⟨hx, hb, hr, hml, hown, hts, hX, hbl, hlocks, hgv⟩ := C0
  have hown : s.vm.findClass RL = some m.cls := hown
  obtain ⟨R, S, Rm, C, P, Q, V, n, I, J, A, B, hR, hP, hD, hS⟩ := hSt
  have hA : ∀ q : Nat, s.heap.size ≤ q → (fun q : Nat => s.heap.size ≤ q) q := fun _ h => h
  have hbA : ¬ (fun q : Nat => s.heap.size ≤ q) b := Nat.not_le.mpr hbl
  obtain ⟨z_a, hf1, hf2⟩ := x_kept N hR (xs (i + 1).toNatClampNeg) (xs (i + 2).toNatClampNeg)
  refine lv_aload_n hx hb dL_law_924 rfl (lv_at hl 2 rfl) ?_
  refine lv_aload_n hx hb dL_law_925 rfl (lv_at hl 3 rfl) ?_
  refine lv_iload_n hx hb dL_law_926 rfl (lv_at hl 0 rfl) ?_
  refine lv_iconst (v := 1) hx hb dL_law_927 (by decide) ?_
  refine lv_iadd hx hb dL_law_928 ?_
  refine va_sld hx hb hX hbl hbA hS hv1 dL_law_929 ?_
  refine lv_aload_n hx hb dL_law_930 rfl (lv_at hl 3 rfl) ?_
  refine lv_iload_n hx hb dL_law_931 rfl (lv_at hl 0 rfl) ?_
  refine lv_iconst (v := 2) hx hb dL_law_932 (by decide) ?_
  refine lv_iadd hx hb dL_law_933 ?_
  refine va_sld hx hb hX hbl hbA hS hv2 dL_law_934 ?_
  rw [List.append_assoc] at hP hD
  refine lw_callV (As := [.int (xs (i + 1).toNatClampNeg), .int (xs (i + 2).toNatClampNeg)]) (rest := []) (ci := 11) (q0 := 0) (wa' := lw_wc cI cB x R C n) ⟨hx, hb, hml, hown, hts⟩ (kX11_kept l dC dI cI cB cJ cZ cM s.heap.size ad N x (C 0) (R 0) (C 5) (R 2) (C 8) (R 4) (C 34) (xs (i + 1).toNatClampNeg) (xs (i + 2).toNatClampNeg) hf1) (cwV 2 hts lw_gX11_kept rfl rfl rfl (by decide +kernel) ⟨Nat.le_of_ble_eq_true rfl, Nat.le_of_ble_eq_true rfl⟩) hN hK hP hD hS hA [0, 4, 7, 34] (by decide +kernel) rfl rfl rfl rfl rfl rfl rfl hl.1 rfl (Nat.le_of_ble_eq_true rfl) dL_law_935 hf (fun H locs hP hD hS => ?_)
  rw [← List.append_assoc] at hP hD
  have hP := lw_swP hP
  have hD := lw_swD hD
  refine W.eq (g2 := F0 m 938 ls [.int z_a]) rfl ?_
  refine lv_aload_n hx hb dL_law_938 rfl (lv_at hl 1 rfl) ?_
  refine lv_aload_n hx hb dL_law_939 rfl (lv_at hl 3 rfl) ?_
  refine lv_iload_n hx hb dL_law_940 rfl (lv_at hl 0 rfl) ?_
  refine lv_iconst (v := 1) hx hb dL_law_941 (by decide) ?_
  refine lv_iadd hx hb dL_law_942 ?_
  refine va_sld hx hb hX hbl hbA hS hv1 dL_law_943 ?_
  refine lv_aload_n hx hb dL_law_944 rfl (lv_at hl 3 rfl) ?_
  refine lv_iload_n hx hb dL_law_945 rfl (lv_at hl 0 rfl) ?_
  refine lv_iconst (v := 2) hx hb dL_law_946 (by decide) ?_
  refine lv_iadd hx hb dL_law_947 ?_
  refine va_sld hx hb hX hbl hbA hS hv2 dL_law_948 ?_
  refine lw_callV (As := [.int (xs (i + 1).toNatClampNeg), .int (xs (i + 2).toNatClampNeg)]) (rest := [.int z_a]) (ci := 12) (q0 := 0) (wa' := lw_wm cI cJ cZ mm Rm I J A B) ⟨hx, hb, hml, hown, hts⟩ (kX12_kept l dC dI cI cB cJ cZ cM s.heap.size ad N mm I J Rm (A 52) (A 53) (xs (i + 1).toNatClampNeg) (xs (i + 2).toNatClampNeg) hf2) (cwV 2 hts lw_gX12_kept rfl rfl rfl (by decide +kernel) ⟨Nat.le_of_ble_eq_true rfl, Nat.le_of_ble_eq_true rfl⟩) hN hK hP hD hS hA [0, 32, 33] (by decide +kernel) rfl rfl rfl rfl rfl rfl rfl hl.1 rfl (Nat.le_of_ble_eq_true rfl) dL_law_949 hf (fun H locs hP hD hS => ?_)
  have hP := lw_swP hP
  have hD := lw_swD hD
  refine W.eq (g2 := F0 m 952 ls [.int z_a, .int z_a]) rfl ?_
  refine lv_icmp_eq (tgt := 1029) hx hb dL_law_952 (by decide) (fun c_1 => ?_) (fun c_1 => absurd rfl c_1)
  exact kk _ _ _ (Nat.le_add_right _ _) ⟨R, S, Rm, C, P, Q, V, n, I, J, A, B, hR, hP, hD, hS⟩
set_option maxHeartbeats 4000000 in
set_option maxRecDepth 100000 in
theorem lwo_letter (h5 : 5000 ≤ N) (C0 : lw_At p s m meth c b L xs) (hN : xq_Env s.heap.size ad (fun q : Nat => s.heap.size ≤ q) s) (hK : va_K (dC, dI) vwCl (xq_tys cI cB cJ cZ cM) s) (hSt : lw_St dC dI cI cB cJ cZ cM s x mm t H locs) (hl : lv_has ls 4 [(3, .int i), (2, .ref mm), (1, .ref x), (0, .ref b)]) (hv1 : vp_in (i + 1) L) (hv2 : vp_in (i + 2) L) (hv3 : vp_in (i + 3) L) (hf : cells ≤ room_1.cells ∧ slots ≤ room_1.slots) (kk : ∀ (t' : Nat) (H' : Heap) (locs' : List Loc), t' ≤ t + 20 → lw_St dC dI cI cB cJ cZ cM s x mm t' H' locs' → W p l e room_1 s m #[Value.ref b] below meth c H' locs' cells slots (lw_Z below #[Value.ref b] s) (F0 m 1029 ls [])) : W p l e room_1 s m #[Value.ref b] below meth c H locs cells slots (lw_Z below #[Value.ref b] s) (F0 m 325 ls []) := by
  obtain ⟨hx, hb, hr, hml, hown, hts, hX, hbl, hlocks, hgv⟩ := C0
  have hown : s.vm.findClass RL = some m.cls := hown
  obtain ⟨R, S, Rm, C, P, Q, V, n, I, J, A, B, hR, hP, hD, hS⟩ := hSt
  have hA : ∀ q : Nat, s.heap.size ≤ q → (fun q : Nat => s.heap.size ≤ q) q := fun _ h => h
  have hbA : ¬ (fun q : Nat => s.heap.size ≤ q) b := Nat.not_le.mpr hbl
  obtain ⟨z_a, hf1, hf2⟩ := x_letter N h5 hR (xs (i + 1).toNatClampNeg) (xs (i + 2).toNatClampNeg) (xs (i + 3).toNatClampNeg)
  refine lv_aload_n hx hb dL_law_325 rfl (lv_at hl 2 rfl) ?_
  refine lv_aload_n hx hb dL_law_326 rfl (lv_at hl 3 rfl) ?_
  refine lv_iload_n hx hb dL_law_327 rfl (lv_at hl 0 rfl) ?_
  refine lv_iconst (v := 1) hx hb dL_law_328 (by decide) ?_
  refine lv_iadd hx hb dL_law_329 ?_
  refine va_sld hx hb hX hbl hbA hS hv1 dL_law_330 ?_
  refine lv_aload_n hx hb dL_law_331 rfl (lv_at hl 3 rfl) ?_
  refine lv_iload_n hx hb dL_law_332 rfl (lv_at hl 0 rfl) ?_
  refine lv_iconst (v := 2) hx hb dL_law_333 (by decide) ?_
  refine lv_iadd hx hb dL_law_334 ?_
  refine va_sld hx hb hX hbl hbA hS hv2 dL_law_335 ?_
  refine lv_aload_n hx hb dL_law_336 rfl (lv_at hl 3 rfl) ?_
  refine lv_iload_n hx hb dL_law_337 rfl (lv_at hl 0 rfl) ?_
  refine lv_iconst (v := 3) hx hb dL_law_338 (by decide) ?_
  refine lv_iadd hx hb dL_law_339 ?_
  refine va_sld hx hb hX hbl hbA hS hv3 dL_law_340 ?_
  rw [List.append_assoc] at hP hD
  refine lw_callV (As := [.int (xs (i + 1).toNatClampNeg), .int (xs (i + 2).toNatClampNeg), .int (xs (i + 3).toNatClampNeg)]) (rest := []) (ci := 11) (q0 := 0) (wa' := lw_wc cI cB x R C n) ⟨hx, hb, hml, hown, hts⟩ (kX11_letter l dC dI cI cB cJ cZ cM s.heap.size ad N x (C 0) (R 0) (C 10) (R 9) (C 11) (C 14) (xs (i + 1).toNatClampNeg) (xs (i + 2).toNatClampNeg) (xs (i + 3).toNatClampNeg) hf1) (cwV 3 hts lw_gX11_letter rfl rfl rfl (by decide +kernel) ⟨Nat.le_of_ble_eq_true rfl, Nat.le_of_ble_eq_true rfl⟩) hN hK hP hD hS hA [0, 10, 11, 14] (by decide +kernel) rfl rfl rfl rfl rfl rfl rfl hl.1 rfl (Nat.le_of_ble_eq_true rfl) dL_law_341 hf (fun H locs hP hD hS => ?_)
  rw [← List.append_assoc] at hP hD
  have hP := lw_swP hP
  have hD := lw_swD hD
  refine W.eq (g2 := F0 m 344 ls [.int z_a]) rfl ?_
  refine lv_aload_n hx hb dL_law_344 rfl (lv_at hl 1 rfl) ?_
  refine lv_aload_n hx hb dL_law_345 rfl (lv_at hl 3 rfl) ?_
  refine lv_iload_n hx hb dL_law_346 rfl (lv_at hl 0 rfl) ?_
  refine lv_iconst (v := 1) hx hb dL_law_347 (by decide) ?_
  refine lv_iadd hx hb dL_law_348 ?_
  refine va_sld hx hb hX hbl hbA hS hv1 dL_law_349 ?_
  refine lv_aload_n hx hb dL_law_350 rfl (lv_at hl 3 rfl) ?_
  refine lv_iload_n hx hb dL_law_351 rfl (lv_at hl 0 rfl) ?_
  refine lv_iconst (v := 2) hx hb dL_law_352 (by decide) ?_
  refine lv_iadd hx hb dL_law_353 ?_
  refine va_sld hx hb hX hbl hbA hS hv2 dL_law_354 ?_
  refine lv_aload_n hx hb dL_law_355 rfl (lv_at hl 3 rfl) ?_
  refine lv_iload_n hx hb dL_law_356 rfl (lv_at hl 0 rfl) ?_
  refine lv_iconst (v := 3) hx hb dL_law_357 (by decide) ?_
  refine lv_iadd hx hb dL_law_358 ?_
  refine va_sld hx hb hX hbl hbA hS hv3 dL_law_359 ?_
  refine lw_callV (As := [.int (xs (i + 1).toNatClampNeg), .int (xs (i + 2).toNatClampNeg), .int (xs (i + 3).toNatClampNeg)]) (rest := [.int z_a]) (ci := 12) (q0 := 0) (wa' := lw_wm cI cJ cZ mm Rm I J A B) ⟨hx, hb, hml, hown, hts⟩ (kX12_letter l dC dI cI cB cJ cZ cM s.heap.size ad N mm I J Rm (A 21) (A 18) (B 29) (B 28) (xs (i + 1).toNatClampNeg) (xs (i + 2).toNatClampNeg) (xs (i + 3).toNatClampNeg) hf2) (cwV 3 hts lw_gX12_letter rfl rfl rfl (by decide +kernel) ⟨Nat.le_of_ble_eq_true rfl, Nat.le_of_ble_eq_true rfl⟩) hN hK hP hD hS hA [0, 9, 6, 17, 16] (by decide +kernel) rfl rfl rfl rfl rfl rfl rfl hl.1 rfl (Nat.le_of_ble_eq_true rfl) dL_law_360 hf (fun H locs hP hD hS => ?_)
  have hP := lw_swP hP
  have hD := lw_swD hD
  refine W.eq (g2 := F0 m 363 ls [.int z_a, .int z_a]) rfl ?_
  refine lv_icmp_eq (tgt := 1029) hx hb dL_law_363 (by decide) (fun c_1 => ?_) (fun c_1 => absurd rfl c_1)
  exact kk _ _ _ (Nat.le_add_right _ _) ⟨R, S, Rm, C, P, Q, V, n, I, J, A, B, hR, hP, hD, hS⟩
end
