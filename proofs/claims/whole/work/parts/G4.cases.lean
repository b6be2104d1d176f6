/-! cases of the law's switch -/
section
variable {p : Program} {l : Launch} {e : Env} {s : State} {m : MethodId} {below : List Frame} {meth : Method} {c : Code} {b L : Nat} {xs : Nat → Int32} {dC : Nat → ClassId} {dI : Nat → Nat → Nat} {cI cB cJ cZ cM : ClassId} {ad : Nat → Nat} {x mm t : Nat} {H : Heap} {locs : List Loc} {cells slots : Nat} {ls : Array Slot} {i : Int32} (N : Nat)
set_option maxHeartbeats 4000000 in
set_option maxRecDepth 100000 in
theorem lwo_nights (h5 : 5000 ≤ N) (C0 : lw_At p s m meth c b L xs) (hN : xq_Env s.heap.size ad (fun q : Nat => s.heap.size ≤ q) s) (hK : va_K (dC, dI) vwCl (xq_tys cI cB cJ cZ cM) s) (hSt : lw_St dC dI cI cB cJ cZ cM s x mm t H locs) (hl : lv_has ls 4 [(3, .int i), (2, .ref mm), (1, .ref x), (0, .ref b)]) (hv1 : vp_in (i + 1) L) (hf : cells ≤ room_1.cells ∧ slots ≤ room_1.slots) (kk : ∀ (t' : Nat) (H' : Heap) (locs' : List Loc), t' ≤ t + 20 → lw_St dC dI cI cB cJ cZ cM s x mm t' H' locs' → W p l e room_1 s m #[Value.ref b] below meth c H' locs' cells slots (lw_Z below #[Value.ref b] s) (F0 m 1029 ls [])) : W p l e room_1 s m #[Value.ref b] below meth c H locs cells slots (lw_Z below #[Value.ref b] s) (F0 m 753 ls []) := by
  obtain ⟨hx, hb, hr, hml, hown, hts, hX, hbl, hlocks, hgv⟩ := C0
  have hown : s.vm.findClass RL = some m.cls := hown
  obtain ⟨R, S, Rm, C, P, Q, V, n, I, J, A, B, hR, hP, hD, hS⟩ := hSt
  have hA : ∀ q : Nat, s.heap.size ≤ q → (fun q : Nat => s.heap.size ≤ q) q := fun _ h => h
  have hbA : ¬ (fun q : Nat => s.heap.size ≤ q) b := Nat.not_le.mpr hbl
  obtain ⟨z_a, z_c5, z_c8, z_P0, z_Q0, z_V0, z_c3, z_c25, z_c20, z_c21, z_c34, z_i, z_q45, z_q46, z_q47, z_q48, z_q49, z_q50, z_q52, z_q51, z_q53, z_q44, z_q58, z_q57, z_q59, hf1, hf2, hR1⟩ := x_nights N h5 hR (xs (i + 1).toNatClampNeg)
  refine lv_aload_n hx hb dL_law_753 rfl (lv_at hl 2 rfl) ?_
  refine lv_aload_n hx hb dL_law_754 rfl (lv_at hl 3 rfl) ?_
  refine lv_iload_n hx hb dL_law_755 rfl (lv_at hl 0 rfl) ?_
  refine lv_iconst (v := 1) hx hb dL_law_756 (by decide) ?_
  refine lv_iadd hx hb dL_law_757 ?_
  refine va_sld hx hb hX hbl hbA hS hv1 dL_law_758 ?_
  refine lw_callV (As := [.int (xs (i + 1).toNatClampNeg)]) (rest := []) (ci := 11) (q0 := 0) (wa' := (lw_wc cI cB x R (va_up (va_up (va_up (va_up (va_up (va_up (va_up (C) 5 z_c5) 8 z_c8) 3 z_c3) 25 z_c25) 20 z_c20) 21 z_c21) 34 z_c34) n) ++ (lw_wp cI cM R S z_P0 z_Q0 z_V0)) ⟨hx, hb, hml, hown, hts⟩ (kX11_nights l dC dI cI cB cJ cZ cM s.heap.size ad N x (C 0) (R 0) (C 10) (R 9) (C 5) (R 2) (C 8) (R 4) (R 5) P Q V S (C 6) (C 7) (C 3) (C 25) (C 4) (R 10) (C 20) (C 17) (n 0) (C 21) (C 19) (n 2) (C 15) (C 13) (C 18) (n 1) (C 34) (xs (i + 1).toNatClampNeg) hf1) (cwV 1 hts lw_gX11_nights rfl rfl rfl (by decide +kernel) ⟨Nat.le_of_ble_eq_true rfl, Nat.le_of_ble_eq_true rfl⟩) hN hK hP hD hS hA [0, 10, 4, 7, 37, 38, 39, 40, 41, 42, 43, 44, 45, 46, 47, 48, 49, 50, 51, 52, 53, 54, 55, 56, 57, 58, 59, 60, 61, 62, 63, 64, 65, 66, 67, 68, 69, 70, 71, 72, 73, 74, 75, 76, 77, 78, 79, 80, 81, 82, 83, 84, 85, 86, 87, 88, 89, 90, 91, 92, 93, 94, 95, 96, 97, 5, 6, 9, 25, 3, 20, 17, 21, 19, 15, 13, 18, 34] (by decide +kernel) rfl rfl rfl rfl rfl rfl rfl hl.1 rfl (Nat.le_of_ble_eq_true rfl) dL_law_759 hf (fun H locs hP hD hS => ?_)
  have hP := lw_swP hP
  have hD := lw_swD hD
  refine W.eq (g2 := F0 m 762 ls [.int z_a]) rfl ?_
  refine lv_aload_n hx hb dL_law_762 rfl (lv_at hl 1 rfl) ?_
  refine lv_aload_n hx hb dL_law_763 rfl (lv_at hl 3 rfl) ?_
  refine lv_iload_n hx hb dL_law_764 rfl (lv_at hl 0 rfl) ?_
  refine lv_iconst (v := 1) hx hb dL_law_765 (by decide) ?_
  refine lv_iadd hx hb dL_law_766 ?_
  refine va_sld hx hb hX hbl hbA hS hv1 dL_law_767 ?_
  refine lw_callV (As := [.int (xs (i + 1).toNatClampNeg)]) (rest := [.int z_a]) (ci := 12) (q0 := 0) (wa' := lw_wm cI cJ cZ mm Rm z_i J (va_up (va_up (va_up (va_up (va_up (va_up (va_up (va_up (va_up (va_up (va_up (va_up (A) 45 z_q45) 46 z_q46) 47 z_q47) 48 z_q48) 49 z_q49) 50 z_q50) 52 z_q52) 51 z_q51) 53 z_q53) 44 z_q44) 58 z_q58) 59 z_q59) (va_up B 57 z_q57)) ⟨hx, hb, hml, hown, hts⟩ (kX12_nights l dC dI cI cB cJ cZ cM s.heap.size ad N mm I J Rm (A 45) (A 46) (A 47) (A 48) (A 49) (A 50) (A 52) (A 51) (A 53) (A 44) (A 24) (A 58) (A 25) (B 57) (A 26) (A 27) (A 14) (A 21) (A 22) (A 18) (A 59) (A 20) (xs (i + 1).toNatClampNeg) hf2) (cwV 1 hts lw_gX12_nights rfl rfl rfl (by decide +kernel) ⟨Nat.le_of_ble_eq_true rfl, Nat.le_of_ble_eq_true rfl⟩) hN hK hP hD hS hA [0, 25, 26, 27, 28, 29, 30, 32, 31, 33, 24, 12, 35, 13, 34, 14, 15, 2, 9, 10, 6, 36, 8] (by decide +kernel) rfl rfl rfl rfl rfl rfl rfl hl.1 rfl (Nat.le_of_ble_eq_true rfl) dL_law_768 hf (fun H locs hP hD hS => ?_)
  have hP := lw_swP hP
  have hD := lw_swD hD
  refine W.eq (g2 := F0 m 771 ls [.int z_a, .int z_a]) rfl ?_
  refine lv_icmp_eq (tgt := 1029) hx hb dL_law_771 (by decide) (fun c_1 => ?_) (fun c_1 => absurd rfl c_1)
  exact kk _ _ _ (Nat.le_add_right _ _) ⟨R, S, Rm, (va_up (va_up (va_up (va_up (va_up (va_up (va_up (C) 5 z_c5) 8 z_c8) 3 z_c3) 25 z_c25) 20 z_c20) 21 z_c21) 34 z_c34), z_P0, z_Q0, z_V0, n, z_i, J, (va_up (va_up (va_up (va_up (va_up (va_up (va_up (va_up (va_up (va_up (va_up (va_up (A) 45 z_q45) 46 z_q46) 47 z_q47) 48 z_q48) 49 z_q49) 50 z_q50) 52 z_q52) 51 z_q51) 53 z_q53) 44 z_q44) 58 z_q58) 59 z_q59), (va_up B 57 z_q57), hR1, hP, hD, hS⟩
set_option maxHeartbeats 4000000 in
set_option maxRecDepth 100000 in
theorem lwo_chance (h5 : 5000 ≤ N) (C0 : lw_At p s m meth c b L xs) (hN : xq_Env s.heap.size ad (fun q : Nat => s.heap.size ≤ q) s) (hK : va_K (dC, dI) vwCl (xq_tys cI cB cJ cZ cM) s) (hSt : lw_St dC dI cI cB cJ cZ cM s x mm t H locs) (hl : lv_has ls 4 [(3, .int i), (2, .ref mm), (1, .ref x), (0, .ref b)]) (hv1 : vp_in (i + 1) L) (hf : cells ≤ room_1.cells ∧ slots ≤ room_1.slots) (kk : ∀ (t' : Nat) (H' : Heap) (locs' : List Loc), t' ≤ t + 20 → lw_St dC dI cI cB cJ cZ cM s x mm t' H' locs' → W p l e room_1 s m #[Value.ref b] below meth c H' locs' cells slots (lw_Z below #[Value.ref b] s) (F0 m 1029 ls [])) : W p l e room_1 s m #[Value.ref b] below meth c H locs cells slots (lw_Z below #[Value.ref b] s) (F0 m 776 ls []) := by
  obtain ⟨hx, hb, hr, hml, hown, hts, hX, hbl, hlocks, hgv⟩ := C0
  have hown : s.vm.findClass RL = some m.cls := hown
  obtain ⟨R, S, Rm, C, P, Q, V, n, I, J, A, B, hR, hP, hD, hS⟩ := hSt
  have hA : ∀ q : Nat, s.heap.size ≤ q → (fun q : Nat => s.heap.size ≤ q) q := fun _ h => h
  have hbA : ¬ (fun q : Nat => s.heap.size ≤ q) b := Nat.not_le.mpr hbl
  obtain ⟨z_a, z_c0, z_c5, z_c8, z_P0, z_Q0, z_V0, z_c3, z_c25, z_c20, z_c21, z_c34, z_i, z_jj, z_q45, z_q46, z_q47, z_q48, z_q49, z_q50, z_q52, z_q51, z_q53, z_q44, z_q58, z_q57, z_q59, hf1, hf2, hR1⟩ := x_chance N h5 hR (xs (i + 1).toNatClampNeg)
  refine lv_aload_n hx hb dL_law_776 rfl (lv_at hl 2 rfl) ?_
  refine lv_aload_n hx hb dL_law_777 rfl (lv_at hl 3 rfl) ?_
  refine lv_iload_n hx hb dL_law_778 rfl (lv_at hl 0 rfl) ?_
  refine lv_iconst (v := 1) hx hb dL_law_779 (by decide) ?_
  refine lv_iadd hx hb dL_law_780 ?_
  refine va_sld hx hb hX hbl hbA hS hv1 dL_law_781 ?_
  refine lw_callV (As := [.int (xs (i + 1).toNatClampNeg)]) (rest := []) (ci := 11) (q0 := 0) (wa' := (lw_wc cI cB x R (va_up (va_up (va_up (va_up (va_up (va_up (va_up (va_up (C) 0 z_c0) 5 z_c5) 8 z_c8) 3 z_c3) 25 z_c25) 20 z_c20) 21 z_c21) 34 z_c34) n) ++ (lw_wp cI cM R S z_P0 z_Q0 z_V0)) ⟨hx, hb, hml, hown, hts⟩ (kX11_chance l dC dI cI cB cJ cZ cM s.heap.size ad N x (C 0) (R 0) (C 10) (R 9) (C 5) (R 2) (C 8) (R 4) (R 5) P Q V S (C 6) (C 7) (C 3) (C 25) (C 4) (R 10) (C 20) (C 17) (n 0) (C 21) (C 19) (n 2) (C 15) (C 13) (C 18) (n 1) (C 34) (xs (i + 1).toNatClampNeg) hf1) (cwV 1 hts lw_gX11_chance rfl rfl rfl (by decide +kernel) ⟨Nat.le_of_ble_eq_true rfl, Nat.le_of_ble_eq_true rfl⟩) hN hK hP hD hS hA [0, 10, 4, 7, 37, 38, 39, 40, 41, 42, 43, 44, 45, 46, 47, 48, 49, 50, 51, 52, 53, 54, 55, 56, 57, 58, 59, 60, 61, 62, 63, 64, 65, 66, 67, 68, 69, 70, 71, 72, 73, 74, 75, 76, 77, 78, 79, 80, 81, 82, 83, 84, 85, 86, 87, 88, 89, 90, 91, 92, 93, 94, 95, 96, 97, 5, 6, 9, 25, 3, 20, 17, 21, 19, 15, 13, 18, 34] (by decide +kernel) rfl rfl rfl rfl rfl rfl rfl hl.1 rfl (Nat.le_of_ble_eq_true rfl) dL_law_782 hf (fun H locs hP hD hS => ?_)
  have hP := lw_swP hP
  have hD := lw_swD hD
  refine W.eq (g2 := F0 m 785 ls [.int z_a]) rfl ?_
  refine lv_aload_n hx hb dL_law_785 rfl (lv_at hl 1 rfl) ?_
  refine lv_aload_n hx hb dL_law_786 rfl (lv_at hl 3 rfl) ?_
  refine lv_iload_n hx hb dL_law_787 rfl (lv_at hl 0 rfl) ?_
  refine lv_iconst (v := 1) hx hb dL_law_788 (by decide) ?_
  refine lv_iadd hx hb dL_law_789 ?_
  refine va_sld hx hb hX hbl hbA hS hv1 dL_law_790 ?_
  refine lw_callV (As := [.int (xs (i + 1).toNatClampNeg)]) (rest := [.int z_a]) (ci := 12) (q0 := 0) (wa' := lw_wm cI cJ cZ mm Rm z_i z_jj (va_up (va_up (va_up (va_up (va_up (va_up (va_up (va_up (va_up (va_up (va_up (va_up (A) 45 z_q45) 46 z_q46) 47 z_q47) 48 z_q48) 49 z_q49) 50 z_q50) 52 z_q52) 51 z_q51) 53 z_q53) 44 z_q44) 58 z_q58) 59 z_q59) (va_up B 57 z_q57)) ⟨hx, hb, hml, hown, hts⟩ (kX12_chance l dC dI cI cB cJ cZ cM s.heap.size ad N mm I J Rm (A 45) (A 46) (A 47) (A 48) (A 49) (A 50) (A 52) (A 51) (A 53) (A 44) (A 17) (A 24) (A 58) (A 25) (B 57) (A 26) (A 27) (A 14) (A 21) (A 22) (A 18) (A 59) (A 20) (xs (i + 1).toNatClampNeg) hf2) (cwV 1 hts lw_gX12_chance rfl rfl rfl (by decide +kernel) ⟨Nat.le_of_ble_eq_true rfl, Nat.le_of_ble_eq_true rfl⟩) hN hK hP hD hS hA [0, 25, 26, 27, 28, 29, 30, 32, 31, 33, 24, 5, 12, 35, 13, 34, 14, 15, 2, 9, 10, 6, 36, 8] (by decide +kernel) rfl rfl rfl rfl rfl rfl rfl hl.1 rfl (Nat.le_of_ble_eq_true rfl) dL_law_791 hf (fun H locs hP hD hS => ?_)
  have hP := lw_swP hP
  have hD := lw_swD hD
  refine W.eq (g2 := F0 m 794 ls [.int z_a, .int z_a]) rfl ?_
  refine lv_icmp_eq (tgt := 1029) hx hb dL_law_794 (by decide) (fun c_1 => ?_) (fun c_1 => absurd rfl c_1)
  exact kk _ _ _ (Nat.le_add_right _ _) ⟨R, S, Rm, (va_up (va_up (va_up (va_up (va_up (va_up (va_up (va_up (C) 0 z_c0) 5 z_c5) 8 z_c8) 3 z_c3) 25 z_c25) 20 z_c20) 21 z_c21) 34 z_c34), z_P0, z_Q0, z_V0, n, z_i, z_jj, (va_up (va_up (va_up (va_up (va_up (va_up (va_up (va_up (va_up (va_up (va_up (va_up (A) 45 z_q45) 46 z_q46) 47 z_q47) 48 z_q48) 49 z_q49) 50 z_q50) 52 z_q52) 51 z_q51) 53 z_q53) 44 z_q44) 58 z_q58) 59 z_q59), (va_up B 57 z_q57), hR1, hP, hD, hS⟩
set_option maxHeartbeats 4000000 in
set_option maxRecDepth 100000 in
theorem lwo_hush (h5 : 5000 ≤ N) (C0 : lw_At p s m meth c b L xs) (hN : xq_Env s.heap.size ad (fun q : Nat => s.heap.size ≤ q) s) (hK : va_K (dC, dI) vwCl (xq_tys cI cB cJ cZ cM) s) (hSt : lw_St dC dI cI cB cJ cZ cM s x mm t H locs) (hl : lv_has ls 4 [(3, .int i), (2, .ref mm), (1, .ref x), (0, .ref b)]) (hv1 : vp_in (i + 1) L) (hf : cells ≤ room_1.cells ∧ slots ≤ room_1.slots) (kk : ∀ (t' : Nat) (H' : Heap) (locs' : List Loc), t' ≤ t + 20 → lw_St dC dI cI cB cJ cZ cM s x mm t' H' locs' → W p l e room_1 s m #[Value.ref b] below meth c H' locs' cells slots (lw_Z below #[Value.ref b] s) (F0 m 1029 ls [])) : W p l e room_1 s m #[Value.ref b] below meth c H locs cells slots (lw_Z below #[Value.ref b] s) (F0 m 799 ls []) := by
  obtain ⟨hx, hb, hr, hml, hown, hts, hX, hbl, hlocks, hgv⟩ := C0
  have hown : s.vm.findClass RL = some m.cls := hown
  obtain ⟨R, S, Rm, C, P, Q, V, n, I, J, A, B, hR, hP, hD, hS⟩ := hSt
  have hA : ∀ q : Nat, s.heap.size ≤ q → (fun q : Nat => s.heap.size ≤ q) q := fun _ h => h
  have hbA : ¬ (fun q : Nat => s.heap.size ≤ q) b := Nat.not_le.mpr hbl
  obtain ⟨z_a, z_c5, z_c8, z_P0, z_Q0, z_V0, z_c3, z_i, z_q49, z_q45, z_q46, z_q47, z_q48, z_q50, z_q52, z_q51, z_q53, z_q44, hf1, hf2, hR1⟩ := x_hush N h5 hR (xs (i + 1).toNatClampNeg)
  refine lv_aload_n hx hb dL_law_799 rfl (lv_at hl 2 rfl) ?_
  refine lv_aload_n hx hb dL_law_800 rfl (lv_at hl 3 rfl) ?_
  refine lv_iload_n hx hb dL_law_801 rfl (lv_at hl 0 rfl) ?_
  refine lv_iconst (v := 1) hx hb dL_law_802 (by decide) ?_
  refine lv_iadd hx hb dL_law_803 ?_
  refine va_sld hx hb hX hbl hbA hS hv1 dL_law_804 ?_
  refine lw_callV (As := [.int (xs (i + 1).toNatClampNeg)]) (rest := []) (ci := 11) (q0 := 0) (wa' := (lw_wc cI cB x R (va_up (va_up (va_up (C) 5 z_c5) 8 z_c8) 3 z_c3) n) ++ (lw_wp cI cM R S z_P0 z_Q0 z_V0)) ⟨hx, hb, hml, hown, hts⟩ (kX11_hush l dC dI cI cB cJ cZ cM s.heap.size ad N x (C 0) (R 0) (C 10) (R 9) (C 5) (R 2) (C 8) (R 4) (R 5) P Q V S (C 6) (C 7) (C 3) (xs (i + 1).toNatClampNeg) hf1) (cwV 1 hts lw_gX11_hush rfl rfl rfl (by decide +kernel) ⟨Nat.le_of_ble_eq_true rfl, Nat.le_of_ble_eq_true rfl⟩) hN hK hP hD hS hA [0, 10, 4, 7, 37, 38, 39, 40, 41, 42, 43, 44, 45, 46, 47, 48, 49, 50, 51, 52, 53, 54, 55, 56, 57, 58, 59, 60, 61, 62, 63, 64, 65, 66, 67, 68, 69, 70, 71, 72, 73, 74, 75, 76, 77, 78, 79, 80, 81, 82, 83, 84, 85, 86, 87, 88, 89, 90, 91, 92, 93, 94, 95, 96, 97, 5, 6, 9] (by decide +kernel) rfl rfl rfl rfl rfl rfl rfl hl.1 rfl (Nat.le_of_ble_eq_true rfl) dL_law_805 hf (fun H locs hP hD hS => ?_)
  have hP := lw_swP hP
  have hD := lw_swD hD
  refine W.eq (g2 := F0 m 808 ls [.int z_a]) rfl ?_
  refine lv_aload_n hx hb dL_law_808 rfl (lv_at hl 1 rfl) ?_
  refine lv_aload_n hx hb dL_law_809 rfl (lv_at hl 3 rfl) ?_
  refine lv_iload_n hx hb dL_law_810 rfl (lv_at hl 0 rfl) ?_
  refine lv_iconst (v := 1) hx hb dL_law_811 (by decide) ?_
  refine lv_iadd hx hb dL_law_812 ?_
  refine va_sld hx hb hX hbl hbA hS hv1 dL_law_813 ?_
  refine lw_callV (As := [.int (xs (i + 1).toNatClampNeg)]) (rest := [.int z_a]) (ci := 12) (q0 := 0) (wa' := lw_wm cI cJ cZ mm Rm z_i J (va_up (va_up (va_up (va_up (va_up (va_up (va_up (va_up (va_up (va_up (A) 49 z_q49) 45 z_q45) 46 z_q46) 47 z_q47) 48 z_q48) 50 z_q50) 52 z_q52) 51 z_q51) 53 z_q53) 44 z_q44) B) ⟨hx, hb, hml, hown, hts⟩ (kX12_hush l dC dI cI cB cJ cZ cM s.heap.size ad N mm I J Rm (A 49) (A 45) (A 46) (A 47) (A 48) (A 50) (A 52) (A 51) (A 53) (A 44) (xs (i + 1).toNatClampNeg) hf2) (cwV 1 hts lw_gX12_hush rfl rfl rfl (by decide +kernel) ⟨Nat.le_of_ble_eq_true rfl, Nat.le_of_ble_eq_true rfl⟩) hN hK hP hD hS hA [0, 29, 25, 26, 27, 28, 30, 32, 31, 33, 24] (by decide +kernel) rfl rfl rfl rfl rfl rfl rfl hl.1 rfl (Nat.le_of_ble_eq_true rfl) dL_law_814 hf (fun H locs hP hD hS => ?_)
  have hP := lw_swP hP
  have hD := lw_swD hD
  refine W.eq (g2 := F0 m 817 ls [.int z_a, .int z_a]) rfl ?_
  refine lv_icmp_eq (tgt := 1029) hx hb dL_law_817 (by decide) (fun c_1 => ?_) (fun c_1 => absurd rfl c_1)
  exact kk _ _ _ (Nat.le_add_right _ _) ⟨R, S, Rm, (va_up (va_up (va_up (C) 5 z_c5) 8 z_c8) 3 z_c3), z_P0, z_Q0, z_V0, n, z_i, J, (va_up (va_up (va_up (va_up (va_up (va_up (va_up (va_up (va_up (va_up (A) 49 z_q49) 45 z_q45) 46 z_q46) 47 z_q47) 48 z_q48) 50 z_q50) 52 z_q52) 51 z_q51) 53 z_q53) 44 z_q44), B, hR1, hP, hD, hS⟩
set_option maxHeartbeats 4000000 in
set_option maxRecDepth 100000 in
theorem lwo_sit (h5 : 5000 ≤ N) (C0 : lw_At p s m meth c b L xs) (hN : xq_Env s.heap.size ad (fun q : Nat => s.heap.size ≤ q) s) (hK : va_K (dC, dI) vwCl (xq_tys cI cB cJ cZ cM) s) (hSt : lw_St dC dI cI cB cJ cZ cM s x mm t H locs) (hl : lv_has ls 4 [(3, .int i), (2, .ref mm), (1, .ref x), (0, .ref b)]) (hv1 : vp_in (i + 1) L) (hv2 : vp_in (i + 2) L) (hf : cells ≤ room_1.cells ∧ slots ≤ room_1.slots) (kk : ∀ (t' : Nat) (H' : Heap) (locs' : List Loc), t' ≤ t + 20 → lw_St dC dI cI cB cJ cZ cM s x mm t' H' locs' → W p l e room_1 s m #[Value.ref b] below meth c H' locs' cells slots (lw_Z below #[Value.ref b] s) (F0 m 1029 ls [])) : W p l e room_1 s m #[Value.ref b] below meth c H locs cells slots (lw_Z below #[Value.ref b] s) (F0 m 822 ls []) := by
  obtain ⟨hx, hb, hr, hml, hown, hts, hX, hbl, hlocks, hgv⟩ := C0
  have hown : s.vm.findClass RL = some m.cls := hown
  obtain ⟨R, S, Rm, C, P, Q, V, n, I, J, A, B, hR, hP, hD, hS⟩ := hSt
  have hA : ∀ q : Nat, s.heap.size ≤ q → (fun q : Nat => s.heap.size ≤ q) q := fun _ h => h
  have hbA : ¬ (fun q : Nat => s.heap.size ≤ q) b := Nat.not_le.mpr hbl
  obtain ⟨z_a, z_c6, z_c8, z_P0, z_Q0, z_V0, z_c3, z_i, z_q50, z_q45, z_q46, z_q47, z_q48, z_q49, z_q52, z_q51, z_q53, z_q44, hf1, hf2, hR1⟩ := x_sit N h5 hR (xs (i + 1).toNatClampNeg) (xs (i + 2).toNatClampNeg)
  refine lv_aload_n hx hb dL_law_822 rfl (lv_at hl 2 rfl) ?_
  refine lv_aload_n hx hb dL_law_823 rfl (lv_at hl 3 rfl) ?_
  refine lv_iload_n hx hb dL_law_824 rfl (lv_at hl 0 rfl) ?_
  refine lv_iconst (v := 1) hx hb dL_law_825 (by decide) ?_
  refine lv_iadd hx hb dL_law_826 ?_
  refine va_sld hx hb hX hbl hbA hS hv1 dL_law_827 ?_
  refine lv_aload_n hx hb dL_law_828 rfl (lv_at hl 3 rfl) ?_
  refine lv_iload_n hx hb dL_law_829 rfl (lv_at hl 0 rfl) ?_
  refine lv_iconst (v := 2) hx hb dL_law_830 (by decide) ?_
  refine lv_iadd hx hb dL_law_831 ?_
  refine va_sld hx hb hX hbl hbA hS hv2 dL_law_832 ?_
  refine lw_callV (As := [.int (xs (i + 1).toNatClampNeg), .int (xs (i + 2).toNatClampNeg)]) (rest := []) (ci := 11) (q0 := 0) (wa' := (lw_wc cI cB x R (va_up (va_up (va_up (C) 6 z_c6) 8 z_c8) 3 z_c3) n) ++ (lw_wp cI cM R S z_P0 z_Q0 z_V0)) ⟨hx, hb, hml, hown, hts⟩ (kX11_sit l dC dI cI cB cJ cZ cM s.heap.size ad N x (C 0) (R 0) (C 10) (R 9) (C 5) (R 2) (C 6) (C 8) (R 4) (R 5) P Q V S (C 7) (C 3) (xs (i + 1).toNatClampNeg) (xs (i + 2).toNatClampNeg) hf1) (cwV 2 hts lw_gX11_sit rfl rfl rfl (by decide +kernel) ⟨Nat.le_of_ble_eq_true rfl, Nat.le_of_ble_eq_true rfl⟩) hN hK hP hD hS hA [0, 10, 4, 5, 7, 37, 38, 39, 40, 41, 42, 43, 44, 45, 46, 47, 48, 49, 50, 51, 52, 53, 54, 55, 56, 57, 58, 59, 60, 61, 62, 63, 64, 65, 66, 67, 68, 69, 70, 71, 72, 73, 74, 75, 76, 77, 78, 79, 80, 81, 82, 83, 84, 85, 86, 87, 88, 89, 90, 91, 92, 93, 94, 95, 96, 97, 6, 9] (by decide +kernel) rfl rfl rfl rfl rfl rfl rfl hl.1 rfl (Nat.le_of_ble_eq_true rfl) dL_law_833 hf (fun H locs hP hD hS => ?_)
  have hP := lw_swP hP
  have hD := lw_swD hD
  refine W.eq (g2 := F0 m 836 ls [.int z_a]) rfl ?_
  refine lv_aload_n hx hb dL_law_836 rfl (lv_at hl 1 rfl) ?_
  refine lv_aload_n hx hb dL_law_837 rfl (lv_at hl 3 rfl) ?_
  refine lv_iload_n hx hb dL_law_838 rfl (lv_at hl 0 rfl) ?_
  refine lv_iconst (v := 1) hx hb dL_law_839 (by decide) ?_
  refine lv_iadd hx hb dL_law_840 ?_
  refine va_sld hx hb hX hbl hbA hS hv1 dL_law_841 ?_
  refine lv_aload_n hx hb dL_law_842 rfl (lv_at hl 3 rfl) ?_
  refine lv_iload_n hx hb dL_law_843 rfl (lv_at hl 0 rfl) ?_
  refine lv_iconst (v := 2) hx hb dL_law_844 (by decide) ?_
  refine lv_iadd hx hb dL_law_845 ?_
  refine va_sld hx hb hX hbl hbA hS hv2 dL_law_846 ?_
  refine lw_callV (As := [.int (xs (i + 1).toNatClampNeg), .int (xs (i + 2).toNatClampNeg)]) (rest := [.int z_a]) (ci := 12) (q0 := 0) (wa' := lw_wm cI cJ cZ mm Rm z_i J (va_up (va_up (va_up (va_up (va_up (va_up (va_up (va_up (va_up (va_up (A) 50 z_q50) 45 z_q45) 46 z_q46) 47 z_q47) 48 z_q48) 49 z_q49) 52 z_q52) 51 z_q51) 53 z_q53) 44 z_q44) B) ⟨hx, hb, hml, hown, hts⟩ (kX12_sit l dC dI cI cB cJ cZ cM s.heap.size ad N mm I J Rm (A 18) (A 50) (A 45) (A 46) (A 47) (A 48) (A 49) (A 52) (A 51) (A 53) (A 44) (xs (i + 1).toNatClampNeg) (xs (i + 2).toNatClampNeg) hf2) (cwV 2 hts lw_gX12_sit rfl rfl rfl (by decide +kernel) ⟨Nat.le_of_ble_eq_true rfl, Nat.le_of_ble_eq_true rfl⟩) hN hK hP hD hS hA [0, 6, 30, 25, 26, 27, 28, 29, 32, 31, 33, 24] (by decide +kernel) rfl rfl rfl rfl rfl rfl rfl hl.1 rfl (Nat.le_of_ble_eq_true rfl) dL_law_847 hf (fun H locs hP hD hS => ?_)
  have hP := lw_swP hP
  have hD := lw_swD hD
  refine W.eq (g2 := F0 m 850 ls [.int z_a, .int z_a]) rfl ?_
  refine lv_icmp_eq (tgt := 1029) hx hb dL_law_850 (by decide) (fun c_1 => ?_) (fun c_1 => absurd rfl c_1)
  exact kk _ _ _ (Nat.le_add_right _ _) ⟨R, S, Rm, (va_up (va_up (va_up (C) 6 z_c6) 8 z_c8) 3 z_c3), z_P0, z_Q0, z_V0, n, z_i, J, (va_up (va_up (va_up (va_up (va_up (va_up (va_up (va_up (va_up (va_up (A) 50 z_q50) 45 z_q45) 46 z_q46) 47 z_q47) 48 z_q48) 49 z_q49) 52 z_q52) 51 z_q51) 53 z_q53) 44 z_q44), B, hR1, hP, hD, hS⟩
set_option maxHeartbeats 4000000 in
set_option maxRecDepth 100000 in
theorem lwo_please (h5 : 5000 ≤ N) (C0 : lw_At p s m meth c b L xs) (hN : xq_Env s.heap.size ad (fun q : Nat => s.heap.size ≤ q) s) (hK : va_K (dC, dI) vwCl (xq_tys cI cB cJ cZ cM) s) (hSt : lw_St dC dI cI cB cJ cZ cM s x mm t H locs) (hl : lv_has ls 4 [(3, .int i), (2, .ref mm), (1, .ref x), (0, .ref b)]) (hv1 : vp_in (i + 1) L) (hv2 : vp_in (i + 2) L) (hf : cells ≤ room_1.cells ∧ slots ≤ room_1.slots) (kk : ∀ (t' : Nat) (H' : Heap) (locs' : List Loc), t' ≤ t + 20 → lw_St dC dI cI cB cJ cZ cM s x mm t' H' locs' → W p l e room_1 s m #[Value.ref b] below meth c H' locs' cells slots (lw_Z below #[Value.ref b] s) (F0 m 1029 ls [])) : W p l e room_1 s m #[Value.ref b] below meth c H locs cells slots (lw_Z below #[Value.ref b] s) (F0 m 855 ls []) := by
  obtain ⟨hx, hb, hr, hml, hown, hts, hX, hbl, hlocks, hgv⟩ := C0
  have hown : s.vm.findClass RL = some m.cls := hown
  obtain ⟨R, S, Rm, C, P, Q, V, n, I, J, A, B, hR, hP, hD, hS⟩ := hSt
  have hA : ∀ q : Nat, s.heap.size ≤ q → (fun q : Nat => s.heap.size ≤ q) q := fun _ h => h
  have hbA : ¬ (fun q : Nat => s.heap.size ≤ q) b := Nat.not_le.mpr hbl
  obtain ⟨z_a, z_c7, z_c8, z_P0, z_Q0, z_V0, z_c3, z_i, z_q51, z_q45, z_q46, z_q47, z_q48, z_q49, z_q50, z_q52, z_q53, z_q44, hf1, hf2, hR1⟩ := x_please N h5 hR (xs (i + 1).toNatClampNeg) (xs (i + 2).toNatClampNeg)
  refine lv_aload_n hx hb dL_law_855 rfl (lv_at hl 2 rfl) ?_
  refine lv_aload_n hx hb dL_law_856 rfl (lv_at hl 3 rfl) ?_
  refine lv_iload_n hx hb dL_law_857 rfl (lv_at hl 0 rfl) ?_
  refine lv_iconst (v := 1) hx hb dL_law_858 (by decide) ?_
  refine lv_iadd hx hb dL_law_859 ?_
  refine va_sld hx hb hX hbl hbA hS hv1 dL_law_860 ?_
  refine lv_aload_n hx hb dL_law_861 rfl (lv_at hl 3 rfl) ?_
  refine lv_iload_n hx hb dL_law_862 rfl (lv_at hl 0 rfl) ?_
  refine lv_iconst (v := 2) hx hb dL_law_863 (by decide) ?_
  refine lv_iadd hx hb dL_law_864 ?_
  refine va_sld hx hb hX hbl hbA hS hv2 dL_law_865 ?_
  refine lw_callV (As := [.int (xs (i + 1).toNatClampNeg), .int (xs (i + 2).toNatClampNeg)]) (rest := []) (ci := 11) (q0 := 0) (wa' := (lw_wc cI cB x R (va_up (va_up (va_up (C) 7 z_c7) 8 z_c8) 3 z_c3) n) ++ (lw_wp cI cM R S z_P0 z_Q0 z_V0)) ⟨hx, hb, hml, hown, hts⟩ (kX11_please l dC dI cI cB cJ cZ cM s.heap.size ad N x (C 0) (R 0) (C 10) (R 9) (C 5) (R 2) (C 7) (C 8) (R 4) (R 5) P Q V S (C 6) (C 3) (xs (i + 1).toNatClampNeg) (xs (i + 2).toNatClampNeg) hf1) (cwV 2 hts lw_gX11_please rfl rfl rfl (by decide +kernel) ⟨Nat.le_of_ble_eq_true rfl, Nat.le_of_ble_eq_true rfl⟩) hN hK hP hD hS hA [0, 10, 4, 6, 7, 37, 38, 39, 40, 41, 42, 43, 44, 45, 46, 47, 48, 49, 50, 51, 52, 53, 54, 55, 56, 57, 58, 59, 60, 61, 62, 63, 64, 65, 66, 67, 68, 69, 70, 71, 72, 73, 74, 75, 76, 77, 78, 79, 80, 81, 82, 83, 84, 85, 86, 87, 88, 89, 90, 91, 92, 93, 94, 95, 96, 97, 5, 9] (by decide +kernel) rfl rfl rfl rfl rfl rfl rfl hl.1 rfl (Nat.le_of_ble_eq_true rfl) dL_law_866 hf (fun H locs hP hD hS => ?_)
  have hP := lw_swP hP
  have hD := lw_swD hD
  refine W.eq (g2 := F0 m 869 ls [.int z_a]) rfl ?_
  refine lv_aload_n hx hb dL_law_869 rfl (lv_at hl 1 rfl) ?_
  refine lv_aload_n hx hb dL_law_870 rfl (lv_at hl 3 rfl) ?_
  refine lv_iload_n hx hb dL_law_871 rfl (lv_at hl 0 rfl) ?_
  refine lv_iconst (v := 1) hx hb dL_law_872 (by decide) ?_
  refine lv_iadd hx hb dL_law_873 ?_
  refine va_sld hx hb hX hbl hbA hS hv1 dL_law_874 ?_
  refine lv_aload_n hx hb dL_law_875 rfl (lv_at hl 3 rfl) ?_
  refine lv_iload_n hx hb dL_law_876 rfl (lv_at hl 0 rfl) ?_
  refine lv_iconst (v := 2) hx hb dL_law_877 (by decide) ?_
  refine lv_iadd hx hb dL_law_878 ?_
  refine va_sld hx hb hX hbl hbA hS hv2 dL_law_879 ?_
  refine lw_callV (As := [.int (xs (i + 1).toNatClampNeg), .int (xs (i + 2).toNatClampNeg)]) (rest := [.int z_a]) (ci := 12) (q0 := 0) (wa' := lw_wm cI cJ cZ mm Rm z_i J (va_up (va_up (va_up (va_up (va_up (va_up (va_up (va_up (va_up (va_up (A) 51 z_q51) 45 z_q45) 46 z_q46) 47 z_q47) 48 z_q48) 49 z_q49) 50 z_q50) 52 z_q52) 53 z_q53) 44 z_q44) B) ⟨hx, hb, hml, hown, hts⟩ (kX12_please l dC dI cI cB cJ cZ cM s.heap.size ad N mm I J Rm (A 21) (A 51) (A 45) (A 46) (A 47) (A 48) (A 49) (A 50) (A 52) (A 53) (A 44) (xs (i + 1).toNatClampNeg) (xs (i + 2).toNatClampNeg) hf2) (cwV 2 hts lw_gX12_please rfl rfl rfl (by decide +kernel) ⟨Nat.le_of_ble_eq_true rfl, Nat.le_of_ble_eq_true rfl⟩) hN hK hP hD hS hA [0, 9, 31, 25, 26, 27, 28, 29, 30, 32, 33, 24] (by decide +kernel) rfl rfl rfl rfl rfl rfl rfl hl.1 rfl (Nat.le_of_ble_eq_true rfl) dL_law_880 hf (fun H locs hP hD hS => ?_)
  have hP := lw_swP hP
  have hD := lw_swD hD
  refine W.eq (g2 := F0 m 883 ls [.int z_a, .int z_a]) rfl ?_
  refine lv_icmp_eq (tgt := 1029) hx hb dL_law_883 (by decide) (fun c_1 => ?_) (fun c_1 => absurd rfl c_1)
  exact kk _ _ _ (Nat.le_add_right _ _) ⟨R, S, Rm, (va_up (va_up (va_up (C) 7 z_c7) 8 z_c8) 3 z_c3), z_P0, z_Q0, z_V0, n, z_i, J, (va_up (va_up (va_up (va_up (va_up (va_up (va_up (va_up (va_up (va_up (A) 51 z_q51) 45 z_q45) 46 z_q46) 47 z_q47) 48 z_q48) 49 z_q49) 50 z_q50) 52 z_q52) 53 z_q53) 44 z_q44), B, hR1, hP, hD, hS⟩
set_option maxHeartbeats 4000000 in
set_option maxRecDepth 100000 in
theorem lwo_undo (h5 : 5000 ≤ N) (C0 : lw_At p s m meth c b L xs) (hN : xq_Env s.heap.size ad (fun q : Nat => s.heap.size ≤ q) s) (hK : va_K (dC, dI) vwCl (xq_tys cI cB cJ cZ cM) s) (hSt : lw_St dC dI cI cB cJ cZ cM s x mm t H locs) (hl : lv_has ls 4 [(3, .int i), (2, .ref mm), (1, .ref x), (0, .ref b)])  (hf : cells ≤ room_1.cells ∧ slots ≤ room_1.slots) (kk : ∀ (t' : Nat) (H' : Heap) (locs' : List Loc), t' ≤ t + 20 → lw_St dC dI cI cB cJ cZ cM s x mm t' H' locs' → W p l e room_1 s m #[Value.ref b] below meth c H' locs' cells slots (lw_Z below #[Value.ref b] s) (F0 m 1029 ls [])) : W p l e room_1 s m #[Value.ref b] below meth c H locs cells slots (lw_Z below #[Value.ref b] s) (F0 m 888 ls []) := by
  obtain ⟨hx, hb, hr, hml, hown, hts, hX, hbl, hlocks, hgv⟩ := C0
  have hown : s.vm.findClass RL = some m.cls := hown
  obtain ⟨R, S, Rm, C, P, Q, V, n, I, J, A, B, hR, hP, hD, hS⟩ := hSt
  have hA : ∀ q : Nat, s.heap.size ≤ q → (fun q : Nat => s.heap.size ≤ q) q := fun _ h => h
  have hbA : ¬ (fun q : Nat => s.heap.size ≤ q) b := Nat.not_le.mpr hbl
  obtain ⟨z_a, z_c8, z_c5, z_c6, z_c7, z_c3, z_i, z_q45, z_q46, z_q47, z_q48, z_q49, z_q50, z_q52, z_q51, z_q53, z_q44, hf1, hf2, hR1⟩ := x_undo N h5 hR 
  refine lv_aload_n hx hb dL_law_888 rfl (lv_at hl 2 rfl) ?_
  refine lw_callV (As := []) (rest := []) (ci := 11) (q0 := 0) (wa' := (lw_wc cI cB x R (va_up (va_up (va_up (va_up (va_up (C) 8 z_c8) 5 z_c5) 6 z_c6) 7 z_c7) 3 z_c3) n) ++ (lw_wp cI cM R S P Q V)) ⟨hx, hb, hml, hown, hts⟩ (kX11_undo l dC dI cI cB cJ cZ cM s.heap.size ad N x (C 0) (R 0) (C 8) (R 4) (R 5) P Q V S (C 5) (R 2) (C 6) (C 7) (C 3) hf1) (cwV 0 hts lw_gX11_undo rfl rfl rfl (by decide +kernel) ⟨Nat.le_of_ble_eq_true rfl, Nat.le_of_ble_eq_true rfl⟩) hN hK hP hD hS hA [0, 7, 37, 38, 39, 40, 41, 42, 43, 44, 45, 46, 47, 48, 49, 50, 51, 52, 53, 54, 55, 56, 57, 58, 59, 60, 61, 62, 63, 64, 65, 66, 67, 68, 69, 70, 71, 72, 73, 74, 75, 76, 77, 78, 79, 80, 81, 82, 83, 84, 85, 86, 87, 88, 89, 90, 91, 92, 93, 94, 95, 96, 97, 4, 5, 6, 9] (by decide +kernel) rfl rfl rfl rfl rfl rfl rfl hl.1 rfl (Nat.le_of_ble_eq_true rfl) dL_law_889 hf (fun H locs hP hD hS => ?_)
  have hP := lw_swP hP
  have hD := lw_swD hD
  refine W.eq (g2 := F0 m 892 ls [.int z_a]) rfl ?_
  refine lv_aload_n hx hb dL_law_892 rfl (lv_at hl 1 rfl) ?_
  refine lw_callV (As := []) (rest := [.int z_a]) (ci := 12) (q0 := 0) (wa' := lw_wm cI cJ cZ mm Rm z_i J (va_up (va_up (va_up (va_up (va_up (va_up (va_up (va_up (va_up (va_up (A) 45 z_q45) 46 z_q46) 47 z_q47) 48 z_q48) 49 z_q49) 50 z_q50) 52 z_q52) 51 z_q51) 53 z_q53) 44 z_q44) B) ⟨hx, hb, hml, hown, hts⟩ (kX12_undo l dC dI cI cB cJ cZ cM s.heap.size ad N mm I J Rm (A 45) (A 46) (A 47) (A 48) (A 49) (A 50) (A 52) (A 51) (A 53) (A 44) hf2) (cwV 0 hts lw_gX12_undo rfl rfl rfl (by decide +kernel) ⟨Nat.le_of_ble_eq_true rfl, Nat.le_of_ble_eq_true rfl⟩) hN hK hP hD hS hA [0, 25, 26, 27, 28, 29, 30, 32, 31, 33, 24] (by decide +kernel) rfl rfl rfl rfl rfl rfl rfl hl.1 rfl (Nat.le_of_ble_eq_true rfl) dL_law_893 hf (fun H locs hP hD hS => ?_)
  have hP := lw_swP hP
  have hD := lw_swD hD
  refine W.eq (g2 := F0 m 896 ls [.int z_a, .int z_a]) rfl ?_
  refine lv_icmp_eq (tgt := 1029) hx hb dL_law_896 (by decide) (fun c_1 => ?_) (fun c_1 => absurd rfl c_1)
  exact kk _ _ _ (Nat.le_add_right _ _) ⟨R, S, Rm, (va_up (va_up (va_up (va_up (va_up (C) 8 z_c8) 5 z_c5) 6 z_c6) 7 z_c7) 3 z_c3), P, Q, V, n, z_i, J, (va_up (va_up (va_up (va_up (va_up (va_up (va_up (va_up (va_up (va_up (A) 45 z_q45) 46 z_q46) 47 z_q47) 48 z_q48) 49 z_q49) 50 z_q50) 52 z_q52) 51 z_q51) 53 z_q53) 44 z_q44), B, hR1, hP, hD, hS⟩
end
