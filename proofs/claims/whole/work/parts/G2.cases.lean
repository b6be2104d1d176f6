/-! cases of the law's switch -/
section
variable {p : Program} {l : Launch} {e : Env} {s : State} {m : MethodId} {below : List Frame} {meth : Method} {c : Code} {b L : Nat} {xs : Nat → Int32} {dC : Nat → ClassId} {dI : Nat → Nat → Nat} {cI cB cJ cZ cM : ClassId} {ad : Nat → Nat} {x mm t : Nat} {H : Heap} {locs : List Loc} {cells slots : Nat} {ls : Array Slot} {i : Int32} (N : Nat)
set_option maxHeartbeats 4000000 in
set_option maxRecDepth 100000 in
theorem lwo_feed (h5 : 5000 ≤ N) (C0 : lw_At p s m meth c b L xs) (hN : xq_Env s.heap.size ad (fun q : Nat => s.heap.size ≤ q) s) (hK : va_K (dC, dI) vwCl (xq_tys cI cB cJ cZ cM) s) (hSt : lw_St dC dI cI cB cJ cZ cM s x mm t H locs) (hl : lv_has ls 4 [(3, .int i), (2, .ref mm), (1, .ref x), (0, .ref b)]) (hv1 : vp_in (i + 1) L) (hv2 : vp_in (i + 2) L) (hv3 : vp_in (i + 3) L) (hv4 : vp_in (i + 4) L) (hv5 : vp_in (i + 5) L) (hf : cells ≤ room_1.cells ∧ slots ≤ room_1.slots) (kk : ∀ (t' : Nat) (H' : Heap) (locs' : List Loc), t' ≤ t + 20 → lw_St dC dI cI cB cJ cZ cM s x mm t' H' locs' → W p l e room_1 s m #[Value.ref b] below meth c H' locs' cells slots (lw_Z below #[Value.ref b] s) (F0 m 1029 ls [])) : W p l e room_1 s m #[Value.ref b] below meth c H locs cells slots (lw_Z below #[Value.ref b] s) (F0 m 180 ls []) := by
  obtain ⟨hx, hb, hr, hml, hown, hts, hX, hbl, hlocks, hgv⟩ := C0
  have hown : s.vm.findClass RL = some m.cls := hown
  obtain ⟨R, S, Rm, C, P, Q, V, n, I, J, A, B, hR, hP, hD, hS⟩ := hSt
  have hA : ∀ q : Nat, s.heap.size ≤ q → (fun q : Nat => s.heap.size ≤ q) q := fun _ h => h
  have hbA : ¬ (fun q : Nat => s.heap.size ≤ q) b := Nat.not_le.mpr hbl
  obtain ⟨z_a, z_c1, z_c2, z_c3, z_i, z_q0, z_q44, z_t0, hf1, hf2, hT, hR1⟩ := x_feed N h5 hR (xs (i + 1).toNatClampNeg) (xs (i + 2).toNatClampNeg) (xs (i + 3).toNatClampNeg) (xs (i + 4).toNatClampNeg) (xs (i + 5).toNatClampNeg)
  refine lv_aload_n hx hb dL_law_180 rfl (lv_at hl 2 rfl) ?_
  refine lv_aload_n hx hb dL_law_181 rfl (lv_at hl 3 rfl) ?_
  refine lv_iload_n hx hb dL_law_182 rfl (lv_at hl 0 rfl) ?_
  refine lv_iconst (v := 1) hx hb dL_law_183 (by decide) ?_
  refine lv_iadd hx hb dL_law_184 ?_
  refine va_sld hx hb hX hbl hbA hS hv1 dL_law_185 ?_
  refine lv_aload_n hx hb dL_law_186 rfl (lv_at hl 3 rfl) ?_
  refine lv_iload_n hx hb dL_law_187 rfl (lv_at hl 0 rfl) ?_
  refine lv_iconst (v := 2) hx hb dL_law_188 (by decide) ?_
  refine lv_iadd hx hb dL_law_189 ?_
  refine va_sld hx hb hX hbl hbA hS hv2 dL_law_190 ?_
  refine lv_aload_n hx hb dL_law_191 rfl (lv_at hl 3 rfl) ?_
  refine lv_iload_n hx hb dL_law_192 rfl (lv_at hl 0 rfl) ?_
  refine lv_iconst (v := 3) hx hb dL_law_193 (by decide) ?_
  refine lv_iadd hx hb dL_law_194 ?_
  refine va_sld hx hb hX hbl hbA hS hv3 dL_law_195 ?_
  refine lv_aload_n hx hb dL_law_196 rfl (lv_at hl 3 rfl) ?_
  refine lv_iload_n hx hb dL_law_197 rfl (lv_at hl 0 rfl) ?_
  refine lv_iconst (v := 4) hx hb dL_law_198 (by decide) ?_
  refine lv_iadd hx hb dL_law_199 ?_
  refine va_sld hx hb hX hbl hbA hS hv4 dL_law_200 ?_
  refine lv_aload_n hx hb dL_law_201 rfl (lv_at hl 3 rfl) ?_
  refine lv_iload_n hx hb dL_law_202 rfl (lv_at hl 0 rfl) ?_
  refine lv_iconst (v := 5) hx hb dL_law_203 (by decide) ?_
  refine lv_iadd hx hb dL_law_204 ?_
  refine va_sld hx hb hX hbl hbA hS hv5 dL_law_205 ?_
  rw [List.append_assoc] at hP hD
  refine lw_callV (As := [.int (xs (i + 1).toNatClampNeg), .int (xs (i + 2).toNatClampNeg), .int (xs (i + 3).toNatClampNeg), .int (xs (i + 4).toNatClampNeg), .int (xs (i + 5).toNatClampNeg)]) (rest := []) (ci := 11) (q0 := 0) (wa' := lw_wc cI cB x R (va_up (va_up (va_up C 1 z_c1) 2 z_c2) 3 z_c3) n) ⟨hx, hb, hml, hown, hts⟩ (kX11_feed l dC dI cI cB cJ cZ cM s.heap.size ad N x (C 0) (R 0) (C 1) (R 1) (C 2) (C 3) (xs (i + 1).toNatClampNeg) (xs (i + 2).toNatClampNeg) (xs (i + 3).toNatClampNeg) (xs (i + 4).toNatClampNeg) (xs (i + 5).toNatClampNeg) hf1) (cwV 5 hts lw_gX11_feed rfl rfl rfl (by decide +kernel) ⟨Nat.le_of_ble_eq_true rfl, Nat.le_of_ble_eq_true rfl⟩) hN hK hP hD hS hA [0, 1, 2, 9] (by decide +kernel) rfl rfl rfl rfl rfl rfl rfl hl.1 rfl (Nat.le_of_ble_eq_true rfl) dL_law_206 hf (fun H locs hP hD hS => ?_)
  rw [← List.append_assoc] at hP hD
  have hP := lw_swP hP
  have hD := lw_swD hD
  refine W.eq (g2 := F0 m 209 ls [.int z_a]) rfl ?_
  refine lv_aload_n hx hb dL_law_209 rfl (lv_at hl 1 rfl) ?_
  refine lv_aload_n hx hb dL_law_210 rfl (lv_at hl 3 rfl) ?_
  refine lv_iload_n hx hb dL_law_211 rfl (lv_at hl 0 rfl) ?_
  refine lv_iconst (v := 1) hx hb dL_law_212 (by decide) ?_
  refine lv_iadd hx hb dL_law_213 ?_
  refine va_sld hx hb hX hbl hbA hS hv1 dL_law_214 ?_
  refine lv_aload_n hx hb dL_law_215 rfl (lv_at hl 3 rfl) ?_
  refine lv_iload_n hx hb dL_law_216 rfl (lv_at hl 0 rfl) ?_
  refine lv_iconst (v := 2) hx hb dL_law_217 (by decide) ?_
  refine lv_iadd hx hb dL_law_218 ?_
  refine va_sld hx hb hX hbl hbA hS hv2 dL_law_219 ?_
  refine lv_aload_n hx hb dL_law_220 rfl (lv_at hl 3 rfl) ?_
  refine lv_iload_n hx hb dL_law_221 rfl (lv_at hl 0 rfl) ?_
  refine lv_iconst (v := 3) hx hb dL_law_222 (by decide) ?_
  refine lv_iadd hx hb dL_law_223 ?_
  refine va_sld hx hb hX hbl hbA hS hv3 dL_law_224 ?_
  refine lv_aload_n hx hb dL_law_225 rfl (lv_at hl 3 rfl) ?_
  refine lv_iload_n hx hb dL_law_226 rfl (lv_at hl 0 rfl) ?_
  refine lv_iconst (v := 4) hx hb dL_law_227 (by decide) ?_
  refine lv_iadd hx hb dL_law_228 ?_
  refine va_sld hx hb hX hbl hbA hS hv4 dL_law_229 ?_
  refine lv_aload_n hx hb dL_law_230 rfl (lv_at hl 3 rfl) ?_
  refine lv_iload_n hx hb dL_law_231 rfl (lv_at hl 0 rfl) ?_
  refine lv_iconst (v := 5) hx hb dL_law_232 (by decide) ?_
  refine lv_iadd hx hb dL_law_233 ?_
  refine va_sld hx hb hX hbl hbA hS hv5 dL_law_234 ?_
  refine lw_callV (As := [.int (xs (i + 1).toNatClampNeg), .int (xs (i + 2).toNatClampNeg), .int (xs (i + 3).toNatClampNeg), .int (xs (i + 4).toNatClampNeg), .int (xs (i + 5).toNatClampNeg)]) (rest := [.int z_a]) (ci := 12) (q0 := 0) (wa' := lw_wm cI cJ cZ mm Rm z_i J (va_up (va_up A 0 z_q0) 44 z_q44) B) ⟨hx, hb, hml, hown, hts⟩ (kX12_feed l dC dI cI cB cJ cZ cM s.heap.size ad N mm I J Rm (A 0) (A 44) (xs (i + 1).toNatClampNeg) (xs (i + 2).toNatClampNeg) (xs (i + 3).toNatClampNeg) (xs (i + 4).toNatClampNeg) (xs (i + 5).toNatClampNeg) hf2) (cwV 5 hts lw_gX12_feed rfl rfl rfl (by decide +kernel) ⟨Nat.le_of_ble_eq_true rfl, Nat.le_of_ble_eq_true rfl⟩) hN hK hP hD hS hA [0, 1, 24] (by decide +kernel) rfl rfl rfl rfl rfl rfl rfl hl.1 rfl (Nat.le_of_ble_eq_true rfl) dL_law_235 hf (fun H locs hP hD hS => ?_)
  have hP := lw_swP hP
  have hD := lw_swD hD
  refine W.eq (g2 := F0 m 238 ls [.int z_a, .int z_a]) rfl ?_
  refine lv_icmp_eq (tgt := 1029) hx hb dL_law_238 (by decide) (fun c_1 => ?_) (fun c_1 => absurd rfl c_1)
  exact kk _ _ _ (hT) ⟨R, S, Rm, (va_up (va_up (va_up C 1 z_c1) 2 z_c2) 3 z_c3), P, Q, V, n, z_i, J, (va_up (va_up A 0 z_q0) 44 z_q44), B, hR1, hP, hD, hS⟩
set_option maxHeartbeats 4000000 in
set_option maxRecDepth 100000 in
theorem lwo_end (h5 : 5000 ≤ N) (C0 : lw_At p s m meth c b L xs) (hN : xq_Env s.heap.size ad (fun q : Nat => s.heap.size ≤ q) s) (hK : va_K (dC, dI) vwCl (xq_tys cI cB cJ cZ cM) s) (hSt : lw_St dC dI cI cB cJ cZ cM s x mm t H locs) (hl : lv_has ls 4 [(3, .int i), (2, .ref mm), (1, .ref x), (0, .ref b)]) (hv1 : vp_in (i + 1) L) (hf : cells ≤ room_1.cells ∧ slots ≤ room_1.slots) (kk : ∀ (t' : Nat) (H' : Heap) (locs' : List Loc), t' ≤ t + 20 → lw_St dC dI cI cB cJ cZ cM s x mm t' H' locs' → W p l e room_1 s m #[Value.ref b] below meth c H' locs' cells slots (lw_Z below #[Value.ref b] s) (F0 m 1029 ls [])) : W p l e room_1 s m #[Value.ref b] below meth c H locs cells slots (lw_Z below #[Value.ref b] s) (F0 m 243 ls []) := by
  obtain ⟨hx, hb, hr, hml, hown, hts, hX, hbl, hlocks, hgv⟩ := C0
  have hown : s.vm.findClass RL = some m.cls := hown
  obtain ⟨R, S, Rm, C, P, Q, V, n, I, J, A, B, hR, hP, hD, hS⟩ := hSt
  have hA : ∀ q : Nat, s.heap.size ≤ q → (fun q : Nat => s.heap.size ≤ q) q := fun _ h => h
  have hbA : ¬ (fun q : Nat => s.heap.size ≤ q) b := Nat.not_le.mpr hbl
  obtain ⟨z_a, z_c1, z_c3, z_i, z_q44, z_t0, hf1, hf2, hT, hR1⟩ := x_end N hR (xs (i + 1).toNatClampNeg)
  refine lv_aload_n hx hb dL_law_243 rfl (lv_at hl 2 rfl) ?_
  refine lv_aload_n hx hb dL_law_244 rfl (lv_at hl 3 rfl) ?_
  refine lv_iload_n hx hb dL_law_245 rfl (lv_at hl 0 rfl) ?_
  refine lv_iconst (v := 1) hx hb dL_law_246 (by decide) ?_
  refine lv_iadd hx hb dL_law_247 ?_
  refine va_sld hx hb hX hbl hbA hS hv1 dL_law_248 ?_
  rw [List.append_assoc] at hP hD
  refine lw_callV (As := [.int (xs (i + 1).toNatClampNeg)]) (rest := []) (ci := 11) (q0 := 0) (wa' := lw_wc cI cB x R (va_up (va_up C 1 z_c1) 3 z_c3) n) ⟨hx, hb, hml, hown, hts⟩ (kX11_end l dC dI cI cB cJ cZ cM s.heap.size ad N x (C 0) (R 0) (C 1) (R 1) (C 3) (xs (i + 1).toNatClampNeg) hf1) (cwV 1 hts lw_gX11_end rfl rfl rfl (by decide +kernel) ⟨Nat.le_of_ble_eq_true rfl, Nat.le_of_ble_eq_true rfl⟩) hN hK hP hD hS hA [0, 1, 9] (by decide +kernel) rfl rfl rfl rfl rfl rfl rfl hl.1 rfl (Nat.le_of_ble_eq_true rfl) dL_law_249 hf (fun H locs hP hD hS => ?_)
  rw [← List.append_assoc] at hP hD
  have hP := lw_swP hP
  have hD := lw_swD hD
  refine W.eq (g2 := F0 m 252 ls [.int z_a]) rfl ?_
  refine lv_aload_n hx hb dL_law_252 rfl (lv_at hl 1 rfl) ?_
  refine lv_aload_n hx hb dL_law_253 rfl (lv_at hl 3 rfl) ?_
  refine lv_iload_n hx hb dL_law_254 rfl (lv_at hl 0 rfl) ?_
  refine lv_iconst (v := 1) hx hb dL_law_255 (by decide) ?_
  refine lv_iadd hx hb dL_law_256 ?_
  refine va_sld hx hb hX hbl hbA hS hv1 dL_law_257 ?_
  refine lw_callV (As := [.int (xs (i + 1).toNatClampNeg)]) (rest := [.int z_a]) (ci := 12) (q0 := 0) (wa' := lw_wm cI cJ cZ mm Rm z_i J (va_up A 44 z_q44) B) ⟨hx, hb, hml, hown, hts⟩ (kX12_end l dC dI cI cB cJ cZ cM s.heap.size ad N mm I J Rm (A 44) (xs (i + 1).toNatClampNeg) hf2) (cwV 1 hts lw_gX12_end rfl rfl rfl (by decide +kernel) ⟨Nat.le_of_ble_eq_true rfl, Nat.le_of_ble_eq_true rfl⟩) hN hK hP hD hS hA [0, 24] (by decide +kernel) rfl rfl rfl rfl rfl rfl rfl hl.1 rfl (Nat.le_of_ble_eq_true rfl) dL_law_258 hf (fun H locs hP hD hS => ?_)
  have hP := lw_swP hP
  have hD := lw_swD hD
  refine W.eq (g2 := F0 m 261 ls [.int z_a, .int z_a]) rfl ?_
  refine lv_icmp_eq (tgt := 1029) hx hb dL_law_261 (by decide) (fun c_1 => ?_) (fun c_1 => absurd rfl c_1)
  exact kk _ _ _ (Nat.le_trans hT (Nat.le_add_right _ _)) ⟨R, S, Rm, (va_up (va_up C 1 z_c1) 3 z_c3), P, Q, V, n, z_i, J, (va_up A 44 z_q44), B, hR1, hP, hD, hS⟩
set_option maxHeartbeats 4000000 in
set_option maxRecDepth 100000 in
theorem lwo_seed (h5 : 5000 ≤ N) (C0 : lw_At p s m meth c b L xs) (hN : xq_Env s.heap.size ad (fun q : Nat => s.heap.size ≤ q) s) (hK : va_K (dC, dI) vwCl (xq_tys cI cB cJ cZ cM) s) (hSt : lw_St dC dI cI cB cJ cZ cM s x mm t H locs) (hl : lv_has ls 4 [(3, .int i), (2, .ref mm), (1, .ref x), (0, .ref b)]) (hv1 : vp_in (i + 1) L) (hf : cells ≤ room_1.cells ∧ slots ≤ room_1.slots) (kk : ∀ (t' : Nat) (H' : Heap) (locs' : List Loc), t' ≤ t + 20 → lw_St dC dI cI cB cJ cZ cM s x mm t' H' locs' → W p l e room_1 s m #[Value.ref b] below meth c H' locs' cells slots (lw_Z below #[Value.ref b] s) (F0 m 1029 ls [])) : W p l e room_1 s m #[Value.ref b] below meth c H locs cells slots (lw_Z below #[Value.ref b] s) (F0 m 901 ls []) := by
  obtain ⟨hx, hb, hr, hml, hown, hts, hX, hbl, hlocks, hgv⟩ := C0
  have hown : s.vm.findClass RL = some m.cls := hown
  obtain ⟨R, S, Rm, C, P, Q, V, n, I, J, A, B, hR, hP, hD, hS⟩ := hSt
  have hA : ∀ q : Nat, s.heap.size ≤ q → (fun q : Nat => s.heap.size ≤ q) q := fun _ h => h
  have hbA : ¬ (fun q : Nat => s.heap.size ≤ q) b := Nat.not_le.mpr hbl
  obtain ⟨z_a, z_c0, z_c3, z_j, z_q, hf1, hf2, hR1⟩ := x_seed N hR (xs (i + 1).toNatClampNeg)
  refine lv_aload_n hx hb dL_law_901 rfl (lv_at hl 2 rfl) ?_
  refine lv_aload_n hx hb dL_law_902 rfl (lv_at hl 3 rfl) ?_
  refine lv_iload_n hx hb dL_law_903 rfl (lv_at hl 0 rfl) ?_
  refine lv_iconst (v := 1) hx hb dL_law_904 (by decide) ?_
  refine lv_iadd hx hb dL_law_905 ?_
  refine va_sld hx hb hX hbl hbA hS hv1 dL_law_906 ?_
  rw [List.append_assoc] at hP hD
  refine lw_callV (As := [.int (xs (i + 1).toNatClampNeg)]) (rest := []) (ci := 11) (q0 := 0) (wa' := lw_wc cI cB x R (va_up (va_up C 0 z_c0) 3 z_c3) n) ⟨hx, hb, hml, hown, hts⟩ (kX11_seed l dC dI cI cB cJ cZ cM s.heap.size ad N x (C 0) (R 0) (C 3) (xs (i + 1).toNatClampNeg) hf1) (cwV 1 hts lw_gX11_seed rfl rfl rfl (by decide +kernel) ⟨Nat.le_of_ble_eq_true rfl, Nat.le_of_ble_eq_true rfl⟩) hN hK hP hD hS hA [0, 9] (by decide +kernel) rfl rfl rfl rfl rfl rfl rfl hl.1 rfl (Nat.le_of_ble_eq_true rfl) dL_law_907 hf (fun H locs hP hD hS => ?_)
  rw [← List.append_assoc] at hP hD
  have hP := lw_swP hP
  have hD := lw_swD hD
  refine W.eq (g2 := F0 m 910 ls [.int z_a]) rfl ?_
  refine lv_aload_n hx hb dL_law_910 rfl (lv_at hl 1 rfl) ?_
  refine lv_aload_n hx hb dL_law_911 rfl (lv_at hl 3 rfl) ?_
  refine lv_iload_n hx hb dL_law_912 rfl (lv_at hl 0 rfl) ?_
  refine lv_iconst (v := 1) hx hb dL_law_913 (by decide) ?_
  refine lv_iadd hx hb dL_law_914 ?_
  refine va_sld hx hb hX hbl hbA hS hv1 dL_law_915 ?_
  refine lw_callV (As := [.int (xs (i + 1).toNatClampNeg)]) (rest := [.int z_a]) (ci := 12) (q0 := 0) (wa' := lw_wm cI cJ cZ mm Rm I z_j (va_up A 44 z_q) B) ⟨hx, hb, hml, hown, hts⟩ (kX12_seed l dC dI cI cB cJ cZ cM s.heap.size ad N mm I J Rm (A 44) (xs (i + 1).toNatClampNeg) hf2) (cwV 1 hts lw_gX12_seed rfl rfl rfl (by decide +kernel) ⟨Nat.le_of_ble_eq_true rfl, Nat.le_of_ble_eq_true rfl⟩) hN hK hP hD hS hA [0, 24] (by decide +kernel) rfl rfl rfl rfl rfl rfl rfl hl.1 rfl (Nat.le_of_ble_eq_true rfl) dL_law_916 hf (fun H locs hP hD hS => ?_)
  have hP := lw_swP hP
  have hD := lw_swD hD
  refine W.eq (g2 := F0 m 919 ls [.int z_a, .int z_a]) rfl ?_
  refine lv_icmp_eq (tgt := 1029) hx hb dL_law_919 (by decide) (fun c_1 => ?_) (fun c_1 => absurd rfl c_1)
  exact kk _ _ _ (Nat.le_add_right _ _) ⟨R, S, Rm, (va_up (va_up C 0 z_c0) 3 z_c3), P, Q, V, n, I, z_j, (va_up A 44 z_q), B, hR1, hP, hD, hS⟩
set_option maxHeartbeats 4000000 in
set_option maxRecDepth 100000 in
theorem lwo_image (h5 : 5000 ≤ N) (C0 : lw_At p s m meth c b L xs) (hN : xq_Env s.heap.size ad (fun q : Nat => s.heap.size ≤ q) s) (hK : va_K (dC, dI) vwCl (xq_tys cI cB cJ cZ cM) s) (hSt : lw_St dC dI cI cB cJ cZ cM s x mm t H locs) (hl : lv_has ls 4 [(3, .int i), (2, .ref mm), (1, .ref x), (0, .ref b)])  (hf : cells ≤ room_1.cells ∧ slots ≤ room_1.slots) (kk : ∀ (t' : Nat) (H' : Heap) (locs' : List Loc), t' ≤ t + 20 → lw_St dC dI cI cB cJ cZ cM s x mm t' H' locs' → W p l e room_1 s m #[Value.ref b] below meth c H' locs' cells slots (lw_Z below #[Value.ref b] s) (F0 m 1029 ls [])) : W p l e room_1 s m #[Value.ref b] below meth c H locs cells slots (lw_Z below #[Value.ref b] s) (F0 m 957 ls []) := by
  obtain ⟨hx, hb, hr, hml, hown, hts, hX, hbl, hlocks, hgv⟩ := C0
  have hown : s.vm.findClass RL = some m.cls := hown
  obtain ⟨R, S, Rm, C, P, Q, V, n, I, J, A, B, hR, hP, hD, hS⟩ := hSt
  have hA : ∀ q : Nat, s.heap.size ≤ q → (fun q : Nat => s.heap.size ≤ q) q := fun _ h => h
  have hbA : ¬ (fun q : Nat => s.heap.size ≤ q) b := Nat.not_le.mpr hbl
  obtain ⟨z_a, z_c35, z_c36, z_i, z_q68, hf1, hf2, hR1⟩ := x_image N h5 hR 
  refine lv_aload_n hx hb dL_law_957 rfl (lv_at hl 2 rfl) ?_
  rw [List.append_assoc] at hP hD
  refine lw_callV (As := []) (rest := []) (ci := 11) (q0 := 0) (wa' := lw_wc cI cB x R (va_up (va_up C 35 z_c35) 36 z_c36) n) ⟨hx, hb, hml, hown, hts⟩ (kX11_image l dC dI cI cB cJ cZ cM s.heap.size ad N x (C 0) (R 0) (C 10) (R 9) (C 35) (R 8) (C 5) (R 2) (C 36) (C 6) (C 7) hf1) (cwV 0 hts lw_gX11_image rfl rfl rfl (by decide +kernel) ⟨Nat.le_of_ble_eq_true rfl, Nat.le_of_ble_eq_true rfl⟩) hN hK hP hD hS hA [0, 10, 35, 4, 36, 5, 6] (by decide +kernel) rfl rfl rfl rfl rfl rfl rfl hl.1 rfl (Nat.le_of_ble_eq_true rfl) dL_law_958 hf (fun H locs hP hD hS => ?_)
  rw [← List.append_assoc] at hP hD
  have hP := lw_swP hP
  have hD := lw_swD hD
  refine W.eq (g2 := F0 m 961 ls [.int z_a]) rfl ?_
  refine lv_aload_n hx hb dL_law_961 rfl (lv_at hl 1 rfl) ?_
  refine lw_callV (As := []) (rest := [.int z_a]) (ci := 12) (q0 := 0) (wa' := lw_wm cI cJ cZ mm Rm z_i J (va_up A 68 z_q68) B) ⟨hx, hb, hml, hown, hts⟩ (kX12_image l dC dI cI cB cJ cZ cM s.heap.size ad N mm I J Rm (A 45) (A 68) (A 46) (A 47) (A 48) (A 49) (A 18) (A 50) (A 21) (A 51) hf2) (cwV 0 hts lw_gX12_image rfl rfl rfl (by decide +kernel) ⟨Nat.le_of_ble_eq_true rfl, Nat.le_of_ble_eq_true rfl⟩) hN hK hP hD hS hA [0, 25, 44, 26, 27, 28, 29, 6, 30, 9, 31] (by decide +kernel) rfl rfl rfl rfl rfl rfl rfl hl.1 rfl (Nat.le_of_ble_eq_true rfl) dL_law_962 hf (fun H locs hP hD hS => ?_)
  have hP := lw_swP hP
  have hD := lw_swD hD
  refine W.eq (g2 := F0 m 965 ls [.int z_a, .int z_a]) rfl ?_
  refine lv_icmp_eq (tgt := 1029) hx hb dL_law_965 (by decide) (fun c_1 => ?_) (fun c_1 => absurd rfl c_1)
  exact kk _ _ _ (Nat.le_add_right _ _) ⟨R, S, Rm, (va_up (va_up C 35 z_c35) 36 z_c36), P, Q, V, n, z_i, J, (va_up A 68 z_q68), B, hR1, hP, hD, hS⟩
set_option maxHeartbeats 4000000 in
set_option maxRecDepth 100000 in
theorem lwo_mark (h5 : 5000 ≤ N) (C0 : lw_At p s m meth c b L xs) (hN : xq_Env s.heap.size ad (fun q : Nat => s.heap.size ≤ q) s) (hK : va_K (dC, dI) vwCl (xq_tys cI cB cJ cZ cM) s) (hSt : lw_St dC dI cI cB cJ cZ cM s x mm t H locs) (hl : lv_has ls 4 [(3, .int i), (2, .ref mm), (1, .ref x), (0, .ref b)])  (hf : cells ≤ room_1.cells ∧ slots ≤ room_1.slots) (kk : ∀ (t' : Nat) (H' : Heap) (locs' : List Loc), t' ≤ t + 20 → lw_St dC dI cI cB cJ cZ cM s x mm t' H' locs' → W p l e room_1 s m #[Value.ref b] below meth c H' locs' cells slots (lw_Z below #[Value.ref b] s) (F0 m 1029 ls [])) : W p l e room_1 s m #[Value.ref b] below meth c H locs cells slots (lw_Z below #[Value.ref b] s) (F0 m 694 ls []) := by
  obtain ⟨hx, hb, hr, hml, hown, hts, hX, hbl, hlocks, hgv⟩ := C0
  have hown : s.vm.findClass RL = some m.cls := hown
  obtain ⟨R, S, Rm, C, P, Q, V, n, I, J, A, B, hR, hP, hD, hS⟩ := hSt
  have hA : ∀ q : Nat, s.heap.size ≤ q → (fun q : Nat => s.heap.size ≤ q) q := fun _ h => h
  have hbA : ¬ (fun q : Nat => s.heap.size ≤ q) b := Nat.not_le.mpr hbl
  obtain ⟨z_a, z_c1, z_c9, z_c30, z_c31, z_c32, z_c3, z_i, z_q44, z_q63, z_q64, z_q65, hf1, hf2, hR1⟩ := x_mark N h5 hR 
  refine lv_aload_n hx hb dL_law_694 rfl (lv_at hl 2 rfl) ?_
  rw [List.append_assoc] at hP hD
  refine lw_callV (As := []) (rest := []) (ci := 11) (q0 := 0) (wa' := lw_wc cI cB x R (va_up (va_up (va_up (va_up (va_up (va_up C 1 z_c1) 9 z_c9) 30 z_c30) 31 z_c31) 32 z_c32) 3 z_c3) n) ⟨hx, hb, hml, hown, hts⟩ (kX11_mark l dC dI cI cB cJ cZ cM s.heap.size ad N x (C 0) (R 0) (C 10) (R 9) (C 1) (R 1) (C 2) (C 9) (R 6) (C 30) (C 31) (C 32) (C 3) hf1) (cwV 0 hts lw_gX11_mark rfl rfl rfl (by decide +kernel) ⟨Nat.le_of_ble_eq_true rfl, Nat.le_of_ble_eq_true rfl⟩) hN hK hP hD hS hA [0, 10, 1, 2, 8, 30, 31, 32, 9] (by decide +kernel) rfl rfl rfl rfl rfl rfl rfl hl.1 rfl (Nat.le_of_ble_eq_true rfl) dL_law_695 hf (fun H locs hP hD hS => ?_)
  rw [← List.append_assoc] at hP hD
  have hP := lw_swP hP
  have hD := lw_swD hD
  refine W.eq (g2 := F0 m 698 ls [.int z_a]) rfl ?_
  refine lv_aload_n hx hb dL_law_698 rfl (lv_at hl 1 rfl) ?_
  refine lw_callV (As := []) (rest := [.int z_a]) (ci := 12) (q0 := 0) (wa' := lw_wm cI cJ cZ mm Rm z_i J (va_up (va_up (va_up (va_up A 44 z_q44) 63 z_q63) 64 z_q64) 65 z_q65) B) ⟨hx, hb, hml, hown, hts⟩ (kX12_mark l dC dI cI cB cJ cZ cM s.heap.size ad N mm I J Rm (A 0) (A 18) (A 44) (A 63) (A 64) (A 65) hf2) (cwV 0 hts lw_gX12_mark rfl rfl rfl (by decide +kernel) ⟨Nat.le_of_ble_eq_true rfl, Nat.le_of_ble_eq_true rfl⟩) hN hK hP hD hS hA [0, 1, 6, 24, 39, 40, 41] (by decide +kernel) rfl rfl rfl rfl rfl rfl rfl hl.1 rfl (Nat.le_of_ble_eq_true rfl) dL_law_699 hf (fun H locs hP hD hS => ?_)
  have hP := lw_swP hP
  have hD := lw_swD hD
  refine W.eq (g2 := F0 m 702 ls [.int z_a, .int z_a]) rfl ?_
  refine lv_icmp_eq (tgt := 1029) hx hb dL_law_702 (by decide) (fun c_1 => ?_) (fun c_1 => absurd rfl c_1)
  exact kk _ _ _ (Nat.zero_le _) ⟨R, S, Rm, (va_up (va_up (va_up (va_up (va_up (va_up C 1 z_c1) 9 z_c9) 30 z_c30) 31 z_c31) 32 z_c32) 3 z_c3), P, Q, V, n, z_i, J, (va_up (va_up (va_up (va_up A 44 z_q44) 63 z_q63) 64 z_q64) 65 z_q65), B, hR1, hP, hD, hS⟩
set_option maxHeartbeats 4000000 in
set_option maxRecDepth 100000 in
theorem lwo_on (h5 : 5000 ≤ N) (C0 : lw_At p s m meth c b L xs) (hN : xq_Env s.heap.size ad (fun q : Nat => s.heap.size ≤ q) s) (hK : va_K (dC, dI) vwCl (xq_tys cI cB cJ cZ cM) s) (hSt : lw_St dC dI cI cB cJ cZ cM s x mm t H locs) (hl : lv_has ls 4 [(3, .int i), (2, .ref mm), (1, .ref x), (0, .ref b)])  (hf : cells ≤ room_1.cells ∧ slots ≤ room_1.slots) (kk : ∀ (t' : Nat) (H' : Heap) (locs' : List Loc), t' ≤ t + 20 → lw_St dC dI cI cB cJ cZ cM s x mm t' H' locs' → W p l e room_1 s m #[Value.ref b] below meth c H' locs' cells slots (lw_Z below #[Value.ref b] s) (F0 m 1029 ls [])) : W p l e room_1 s m #[Value.ref b] below meth c H locs cells slots (lw_Z below #[Value.ref b] s) (F0 m 993 ls []) := by
  obtain ⟨hx, hb, hr, hml, hown, hts, hX, hbl, hlocks, hgv⟩ := C0
  have hown : s.vm.findClass RL = some m.cls := hown
  obtain ⟨R, S, Rm, C, P, Q, V, n, I, J, A, B, hR, hP, hD, hS⟩ := hSt
  have hA : ∀ q : Nat, s.heap.size ≤ q → (fun q : Nat => s.heap.size ≤ q) q := fun _ h => h
  have hbA : ¬ (fun q : Nat => s.heap.size ≤ q) b := Nat.not_le.mpr hbl
  obtain ⟨z_a, z_c1, z_c22, z_c23, z_c24, z_c5, z_c6, z_c7, z_c8, z_c3, z_i, z_q45, z_q46, z_q47, z_q48, z_q49, z_q50, z_q52, z_q51, z_q53, z_q44, hf1, hf2, hR1⟩ := x_on N h5 hR 
  refine lv_aload_n hx hb dL_law_993 rfl (lv_at hl 2 rfl) ?_
  rw [List.append_assoc] at hP hD
  refine lw_callV (As := []) (rest := []) (ci := 11) (q0 := 0) (wa' := lw_wc cI cB x R (va_up (va_up (va_up (va_up (va_up (va_up (va_up (va_up (va_up C 1 z_c1) 22 z_c22) 23 z_c23) 24 z_c24) 5 z_c5) 6 z_c6) 7 z_c7) 8 z_c8) 3 z_c3) n) ⟨hx, hb, hml, hown, hts⟩ (kX11_on l dC dI cI cB cJ cZ cM s.heap.size ad N x (C 0) (R 0) (C 10) (R 9) (C 1) (R 1) (C 2) (C 22) (R 3) (C 23) (C 24) (C 5) (R 2) (C 6) (C 7) (C 8) (R 4) (C 3) hf1) (cwV 0 hts lw_gX11_on rfl rfl rfl (by decide +kernel) ⟨Nat.le_of_ble_eq_true rfl, Nat.le_of_ble_eq_true rfl⟩) hN hK hP hD hS hA [0, 10, 1, 2, 22, 23, 24, 4, 5, 6, 7, 9] (by decide +kernel) rfl rfl rfl rfl rfl rfl rfl hl.1 rfl (Nat.le_of_ble_eq_true rfl) dL_law_994 hf (fun H locs hP hD hS => ?_)
  rw [← List.append_assoc] at hP hD
  have hP := lw_swP hP
  have hD := lw_swD hD
  refine W.eq (g2 := F0 m 997 ls [.int z_a]) rfl ?_
  refine lv_aload_n hx hb dL_law_997 rfl (lv_at hl 1 rfl) ?_
  refine lw_callV (As := []) (rest := [.int z_a]) (ci := 12) (q0 := 0) (wa' := lw_wm cI cJ cZ mm Rm z_i J (va_up (va_up (va_up (va_up (va_up (va_up (va_up (va_up (va_up (va_up A 44 z_q44) 45 z_q45) 46 z_q46) 47 z_q47) 48 z_q48) 49 z_q49) 50 z_q50) 52 z_q52) 51 z_q51) 53 z_q53) B) ⟨hx, hb, hml, hown, hts⟩ (kX12_on l dC dI cI cB cJ cZ cM s.heap.size ad N mm I J Rm (A 18) (A 21) (A 0) (A 14) (A 45) (A 46) (A 47) (A 48) (A 49) (A 50) (A 52) (A 51) (A 53) (A 44) hf2) (cwV 0 hts lw_gX12_on rfl rfl rfl (by decide +kernel) ⟨Nat.le_of_ble_eq_true rfl, Nat.le_of_ble_eq_true rfl⟩) hN hK hP hD hS hA [0, 6, 9, 1, 2, 25, 26, 27, 28, 29, 30, 32, 31, 33, 24] (by decide +kernel) rfl rfl rfl rfl rfl rfl rfl hl.1 rfl (Nat.le_of_ble_eq_true rfl) dL_law_998 hf (fun H locs hP hD hS => ?_)
  have hP := lw_swP hP
  have hD := lw_swD hD
  refine W.eq (g2 := F0 m 1001 ls [.int z_a, .int z_a]) rfl ?_
  refine lv_icmp_eq (tgt := 1029) hx hb dL_law_1001 (by decide) (fun c_1 => ?_) (fun c_1 => absurd rfl c_1)
  exact kk _ _ _ (Nat.zero_le _) ⟨R, S, Rm, (va_up (va_up (va_up (va_up (va_up (va_up (va_up (va_up (va_up C 1 z_c1) 22 z_c22) 23 z_c23) 24 z_c24) 5 z_c5) 6 z_c6) 7 z_c7) 8 z_c8) 3 z_c3), P, Q, V, n, z_i, J, (va_up (va_up (va_up (va_up (va_up (va_up (va_up (va_up (va_up (va_up A 44 z_q44) 45 z_q45) 46 z_q46) 47 z_q47) 48 z_q48) 49 z_q49) 50 z_q50) 52 z_q52) 51 z_q51) 53 z_q53), B, hR1, hP, hD, hS⟩
set_option maxHeartbeats 4000000 in
set_option maxRecDepth 100000 in
theorem lwo_ear (h5 : 5000 ≤ N) (C0 : lw_At p s m meth c b L xs) (hN : xq_Env s.heap.size ad (fun q : Nat => s.heap.size ≤ q) s) (hK : va_K (dC, dI) vwCl (xq_tys cI cB cJ cZ cM) s) (hSt : lw_St dC dI cI cB cJ cZ cM s x mm t H locs) (hl : lv_has ls 4 [(3, .int i), (2, .ref mm), (1, .ref x), (0, .ref b)]) (hv1 : vp_in (i + 1) L) (hv2 : vp_in (i + 2) L) (hf : cells ≤ room_1.cells ∧ slots ≤ room_1.slots) (kk : ∀ (t' : Nat) (H' : Heap) (locs' : List Loc), t' ≤ t + 20 → lw_St dC dI cI cB cJ cZ cM s x mm t' H' locs' → W p l e room_1 s m #[Value.ref b] below meth c H' locs' cells slots (lw_Z below #[Value.ref b] s) (F0 m 1029 ls [])) : W p l e room_1 s m #[Value.ref b] below meth c H locs cells slots (lw_Z below #[Value.ref b] s) (F0 m 368 ls []) := by
  obtain ⟨hx, hb, hr, hml, hown, hts, hX, hbl, hlocks, hgv⟩ := C0
  have hown : s.vm.findClass RL = some m.cls := hown
  obtain ⟨R, S, Rm, C, P, Q, V, n, I, J, A, B, hR, hP, hD, hS⟩ := hSt
  have hA : ∀ q : Nat, s.heap.size ≤ q → (fun q : Nat => s.heap.size ≤ q) q := fun _ h => h
  have hbA : ¬ (fun q : Nat => s.heap.size ≤ q) b := Nat.not_le.mpr hbl
  obtain ⟨z_a, z_c_r1, z_c_r2, z_m_r1, z_m_r2, hf1, hf2, hR1⟩ := x_ear N h5 hR (xs (i + 1).toNatClampNeg) (xs (i + 2).toNatClampNeg)
  refine lv_aload_n hx hb dL_law_368 rfl (lv_at hl 2 rfl) ?_
  refine lv_aload_n hx hb dL_law_369 rfl (lv_at hl 3 rfl) ?_
  refine lv_iload_n hx hb dL_law_370 rfl (lv_at hl 0 rfl) ?_
  refine lv_iconst (v := 1) hx hb dL_law_371 (by decide) ?_
  refine lv_iadd hx hb dL_law_372 ?_
  refine va_sld hx hb hX hbl hbA hS hv1 dL_law_373 ?_
  refine lv_aload_n hx hb dL_law_374 rfl (lv_at hl 3 rfl) ?_
  refine lv_iload_n hx hb dL_law_375 rfl (lv_at hl 0 rfl) ?_
  refine lv_iconst (v := 2) hx hb dL_law_376 (by decide) ?_
  refine lv_iadd hx hb dL_law_377 ?_
  refine va_sld hx hb hX hbl hbA hS hv2 dL_law_378 ?_
  rw [List.append_assoc] at hP hD
  refine lw_callV (As := [.int (xs (i + 1).toNatClampNeg), .int (xs (i + 2).toNatClampNeg)]) (rest := []) (ci := 11) (q0 := 0) (wa' := lw_wc cI cB x R (va_up (va_up C 20 z_c_r1) 21 z_c_r2) n) ⟨hx, hb, hml, hown, hts⟩ (kX11_ear l dC dI cI cB cJ cZ cM s.heap.size ad N x (C 0) (R 0) (C 10) (R 9) (C 5) (R 2) (C 6) (C 13) (C 4) (R 10) (C 20) (C 18) (n 1) (C 21) (xs (i + 1).toNatClampNeg) (xs (i + 2).toNatClampNeg) hf1) (cwV 2 hts lw_gX11_ear rfl rfl rfl (by decide +kernel) ⟨Nat.le_of_ble_eq_true rfl, Nat.le_of_ble_eq_true rfl⟩) hN hK hP hD hS hA [0, 10, 4, 5, 13, 3, 20, 18, 21] (by decide +kernel) rfl rfl rfl rfl rfl rfl rfl hl.1 rfl (Nat.le_of_ble_eq_true rfl) dL_law_379 hf (fun H locs hP hD hS => ?_)
  rw [← List.append_assoc] at hP hD
  have hP := lw_swP hP
  have hD := lw_swD hD
  refine W.eq (g2 := F0 m 382 ls [.int z_a]) rfl ?_
  refine lv_aload_n hx hb dL_law_382 rfl (lv_at hl 1 rfl) ?_
  refine lv_aload_n hx hb dL_law_383 rfl (lv_at hl 3 rfl) ?_
  refine lv_iload_n hx hb dL_law_384 rfl (lv_at hl 0 rfl) ?_
  refine lv_iconst (v := 1) hx hb dL_law_385 (by decide) ?_
  refine lv_iadd hx hb dL_law_386 ?_
  refine va_sld hx hb hX hbl hbA hS hv1 dL_law_387 ?_
  refine lv_aload_n hx hb dL_law_388 rfl (lv_at hl 3 rfl) ?_
  refine lv_iload_n hx hb dL_law_389 rfl (lv_at hl 0 rfl) ?_
  refine lv_iconst (v := 2) hx hb dL_law_390 (by decide) ?_
  refine lv_iadd hx hb dL_law_391 ?_
  refine va_sld hx hb hX hbl hbA hS hv2 dL_law_392 ?_
  refine lw_callV (As := [.int (xs (i + 1).toNatClampNeg), .int (xs (i + 2).toNatClampNeg)]) (rest := [.int z_a]) (ci := 12) (q0 := 0) (wa' := lw_wm cI cJ cZ mm Rm I J (va_up (A) 58 z_m_r1) (va_up (B) 57 z_m_r2)) ⟨hx, hb, hml, hown, hts⟩ (kX12_ear l dC dI cI cB cJ cZ cM s.heap.size ad N mm I J Rm (A 18) (A 50) (A 49) (A 24) (A 45) (A 58) (A 20) (A 46) (A 14) (A 25) (B 57) (A 26) (A 27) (xs (i + 1).toNatClampNeg) (xs (i + 2).toNatClampNeg) hf2) (cwV 2 hts lw_gX12_ear rfl rfl rfl (by decide +kernel) ⟨Nat.le_of_ble_eq_true rfl, Nat.le_of_ble_eq_true rfl⟩) hN hK hP hD hS hA [0, 6, 30, 29, 12, 25, 35, 8, 26, 2, 13, 34, 14, 15] (by decide +kernel) rfl rfl rfl rfl rfl rfl rfl hl.1 rfl (Nat.le_of_ble_eq_true rfl) dL_law_393 hf (fun H locs hP hD hS => ?_)
  have hP := lw_swP hP
  have hD := lw_swD hD
  refine W.eq (g2 := F0 m 396 ls [.int z_a, .int z_a]) rfl ?_
  refine lv_icmp_eq (tgt := 1029) hx hb dL_law_396 (by decide) (fun c_1 => ?_) (fun c_1 => absurd rfl c_1)
  exact kk _ _ _ (Nat.le_add_right _ _) ⟨R, S, Rm, (va_up (va_up C 20 z_c_r1) 21 z_c_r2), P, Q, V, n, I, J, (va_up (A) 58 z_m_r1), (va_up (B) 57 z_m_r2), hR1, hP, hD, hS⟩
set_option maxHeartbeats 4000000 in
set_option maxRecDepth 100000 in
theorem lwo_place (h5 : 5000 ≤ N) (C0 : lw_At p s m meth c b L xs) (hN : xq_Env s.heap.size ad (fun q : Nat => s.heap.size ≤ q) s) (hK : va_K (dC, dI) vwCl (xq_tys cI cB cJ cZ cM) s) (hSt : lw_St dC dI cI cB cJ cZ cM s x mm t H locs) (hl : lv_has ls 4 [(3, .int i), (2, .ref mm), (1, .ref x), (0, .ref b)]) (hv1 : vp_in (i + 1) L) (hv2 : vp_in (i + 2) L) (hf : cells ≤ room_1.cells ∧ slots ≤ room_1.slots) (kk : ∀ (t' : Nat) (H' : Heap) (locs' : List Loc), t' ≤ t + 20 → lw_St dC dI cI cB cJ cZ cM s x mm t' H' locs' → W p l e room_1 s m #[Value.ref b] below meth c H' locs' cells slots (lw_Z below #[Value.ref b] s) (F0 m 1029 ls [])) : W p l e room_1 s m #[Value.ref b] below meth c H locs cells slots (lw_Z below #[Value.ref b] s) (F0 m 401 ls []) := by
  obtain ⟨hx, hb, hr, hml, hown, hts, hX, hbl, hlocks, hgv⟩ := C0
  have hown : s.vm.findClass RL = some m.cls := hown
  obtain ⟨R, S, Rm, C, P, Q, V, n, I, J, A, B, hR, hP, hD, hS⟩ := hSt
  have hA : ∀ q : Nat, s.heap.size ≤ q → (fun q : Nat => s.heap.size ≤ q) q := fun _ h => h
  have hbA : ¬ (fun q : Nat => s.heap.size ≤ q) b := Nat.not_le.mpr hbl
  obtain ⟨z_a, z_c_r1, z_c_r2, z_m_r1, z_m_r2, hf1, hf2, hR1⟩ := x_place N h5 hR (xs (i + 1).toNatClampNeg) (xs (i + 2).toNatClampNeg)
  refine lv_aload_n hx hb dL_law_401 rfl (lv_at hl 2 rfl) ?_
  refine lv_aload_n hx hb dL_law_402 rfl (lv_at hl 3 rfl) ?_
  refine lv_iload_n hx hb dL_law_403 rfl (lv_at hl 0 rfl) ?_
  refine lv_iconst (v := 1) hx hb dL_law_404 (by decide) ?_
  refine lv_iadd hx hb dL_law_405 ?_
  refine va_sld hx hb hX hbl hbA hS hv1 dL_law_406 ?_
  refine lv_aload_n hx hb dL_law_407 rfl (lv_at hl 3 rfl) ?_
  refine lv_iload_n hx hb dL_law_408 rfl (lv_at hl 0 rfl) ?_
  refine lv_iconst (v := 2) hx hb dL_law_409 (by decide) ?_
  refine lv_iadd hx hb dL_law_410 ?_
  refine va_sld hx hb hX hbl hbA hS hv2 dL_law_411 ?_
  rw [List.append_assoc] at hP hD
  refine lw_callV (As := [.int (xs (i + 1).toNatClampNeg), .int (xs (i + 2).toNatClampNeg)]) (rest := []) (ci := 11) (q0 := 0) (wa' := lw_wc cI cB x R (va_up (va_up C 20 z_c_r1) 21 z_c_r2) n) ⟨hx, hb, hml, hown, hts⟩ (kX11_place l dC dI cI cB cJ cZ cM s.heap.size ad N x (C 0) (R 0) (C 10) (R 9) (C 15) (C 5) (R 2) (C 7) (C 4) (R 10) (C 20) (C 19) (n 2) (C 21) (xs (i + 1).toNatClampNeg) (xs (i + 2).toNatClampNeg) hf1) (cwV 2 hts lw_gX11_place rfl rfl rfl (by decide +kernel) ⟨Nat.le_of_ble_eq_true rfl, Nat.le_of_ble_eq_true rfl⟩) hN hK hP hD hS hA [0, 10, 15, 4, 6, 3, 20, 19, 21] (by decide +kernel) rfl rfl rfl rfl rfl rfl rfl hl.1 rfl (Nat.le_of_ble_eq_true rfl) dL_law_412 hf (fun H locs hP hD hS => ?_)
  rw [← List.append_assoc] at hP hD
  have hP := lw_swP hP
  have hD := lw_swD hD
  refine W.eq (g2 := F0 m 415 ls [.int z_a]) rfl ?_
  refine lv_aload_n hx hb dL_law_415 rfl (lv_at hl 1 rfl) ?_
  refine lv_aload_n hx hb dL_law_416 rfl (lv_at hl 3 rfl) ?_
  refine lv_iload_n hx hb dL_law_417 rfl (lv_at hl 0 rfl) ?_
  refine lv_iconst (v := 1) hx hb dL_law_418 (by decide) ?_
  refine lv_iadd hx hb dL_law_419 ?_
  refine va_sld hx hb hX hbl hbA hS hv1 dL_law_420 ?_
  refine lv_aload_n hx hb dL_law_421 rfl (lv_at hl 3 rfl) ?_
  refine lv_iload_n hx hb dL_law_422 rfl (lv_at hl 0 rfl) ?_
  refine lv_iconst (v := 2) hx hb dL_law_423 (by decide) ?_
  refine lv_iadd hx hb dL_law_424 ?_
  refine va_sld hx hb hX hbl hbA hS hv2 dL_law_425 ?_
  refine lw_callV (As := [.int (xs (i + 1).toNatClampNeg), .int (xs (i + 2).toNatClampNeg)]) (rest := [.int z_a]) (ci := 12) (q0 := 0) (wa' := lw_wm cI cJ cZ mm Rm I J (va_up (A) 58 z_m_r1) (va_up (B) 57 z_m_r2)) ⟨hx, hb, hml, hown, hts⟩ (kX12_place l dC dI cI cB cJ cZ cM s.heap.size ad N mm I J Rm (A 21) (A 49) (A 51) (A 24) (A 45) (A 58) (A 25) (B 57) (A 26) (A 27) (A 22) (xs (i + 1).toNatClampNeg) (xs (i + 2).toNatClampNeg) hf2) (cwV 2 hts lw_gX12_place rfl rfl rfl (by decide +kernel) ⟨Nat.le_of_ble_eq_true rfl, Nat.le_of_ble_eq_true rfl⟩) hN hK hP hD hS hA [0, 9, 29, 31, 12, 25, 35, 13, 34, 14, 15, 10] (by decide +kernel) rfl rfl rfl rfl rfl rfl rfl hl.1 rfl (Nat.le_of_ble_eq_true rfl) dL_law_426 hf (fun H locs hP hD hS => ?_)
  have hP := lw_swP hP
  have hD := lw_swD hD
  refine W.eq (g2 := F0 m 429 ls [.int z_a, .int z_a]) rfl ?_
  refine lv_icmp_eq (tgt := 1029) hx hb dL_law_429 (by decide) (fun c_1 => ?_) (fun c_1 => absurd rfl c_1)
  exact kk _ _ _ (Nat.le_add_right _ _) ⟨R, S, Rm, (va_up (va_up C 20 z_c_r1) 21 z_c_r2), P, Q, V, n, I, J, (va_up (A) 58 z_m_r1), (va_up (B) 57 z_m_r2), hR1, hP, hD, hS⟩
set_option maxHeartbeats 4000000 in
set_option maxRecDepth 100000 in
theorem lwo_stride (h5 : 5000 ≤ N) (C0 : lw_At p s m meth c b L xs) (hN : xq_Env s.heap.size ad (fun q : Nat => s.heap.size ≤ q) s) (hK : va_K (dC, dI) vwCl (xq_tys cI cB cJ cZ cM) s) (hSt : lw_St dC dI cI cB cJ cZ cM s x mm t H locs) (hl : lv_has ls 4 [(3, .int i), (2, .ref mm), (1, .ref x), (0, .ref b)])  (hf : cells ≤ room_1.cells ∧ slots ≤ room_1.slots) (kk : ∀ (t' : Nat) (H' : Heap) (locs' : List Loc), t' ≤ t + 20 → lw_St dC dI cI cB cJ cZ cM s x mm t' H' locs' → W p l e room_1 s m #[Value.ref b] below meth c H' locs' cells slots (lw_Z below #[Value.ref b] s) (F0 m 1029 ls [])) : W p l e room_1 s m #[Value.ref b] below meth c H locs cells slots (lw_Z below #[Value.ref b] s) (F0 m 434 ls []) := by
  obtain ⟨hx, hb, hr, hml, hown, hts, hX, hbl, hlocks, hgv⟩ := C0
  have hown : s.vm.findClass RL = some m.cls := hown
  obtain ⟨R, S, Rm, C, P, Q, V, n, I, J, A, B, hR, hP, hD, hS⟩ := hSt
  have hA : ∀ q : Nat, s.heap.size ≤ q → (fun q : Nat => s.heap.size ≤ q) q := fun _ h => h
  have hbA : ¬ (fun q : Nat => s.heap.size ≤ q) b := Nat.not_le.mpr hbl
  obtain ⟨z_a, z_c_r1, z_c_r2, z_m_r1, z_m_r2, hf1, hf2, hR1⟩ := x_stride N h5 hR 
  refine lv_aload_n hx hb dL_law_434 rfl (lv_at hl 2 rfl) ?_
  rw [List.append_assoc] at hP hD
  refine lw_callV (As := []) (rest := []) (ci := 11) (q0 := 0) (wa' := lw_wc cI cB x R (va_up (va_up C 20 z_c_r1) 21 z_c_r2) n) ⟨hx, hb, hml, hown, hts⟩ (kX11_stride l dC dI cI cB cJ cZ cM s.heap.size ad N x (C 0) (R 0) (C 10) (R 9) (C 5) (R 2) (C 4) (R 10) (C 20) (C 17) (n 0) (C 21) hf1) (cwV 0 hts lw_gX11_stride rfl rfl rfl (by decide +kernel) ⟨Nat.le_of_ble_eq_true rfl, Nat.le_of_ble_eq_true rfl⟩) hN hK hP hD hS hA [0, 10, 4, 3, 20, 17, 21] (by decide +kernel) rfl rfl rfl rfl rfl rfl rfl hl.1 rfl (Nat.le_of_ble_eq_true rfl) dL_law_435 hf (fun H locs hP hD hS => ?_)
  rw [← List.append_assoc] at hP hD
  have hP := lw_swP hP
  have hD := lw_swD hD
  refine W.eq (g2 := F0 m 438 ls [.int z_a]) rfl ?_
  refine lv_aload_n hx hb dL_law_438 rfl (lv_at hl 1 rfl) ?_
  refine lw_callV (As := []) (rest := [.int z_a]) (ci := 12) (q0 := 0) (wa' := lw_wm cI cJ cZ mm Rm I J (va_up (A) 58 z_m_r1) (va_up (B) 57 z_m_r2)) ⟨hx, hb, hml, hown, hts⟩ (kX12_stride l dC dI cI cB cJ cZ cM s.heap.size ad N mm I J Rm (A 49) (A 24) (A 45) (A 58) (A 46) (A 47) (A 25) (B 57) (A 26) (A 27) hf2) (cwV 0 hts lw_gX12_stride rfl rfl rfl (by decide +kernel) ⟨Nat.le_of_ble_eq_true rfl, Nat.le_of_ble_eq_true rfl⟩) hN hK hP hD hS hA [0, 29, 12, 25, 35, 26, 27, 13, 34, 14, 15] (by decide +kernel) rfl rfl rfl rfl rfl rfl rfl hl.1 rfl (Nat.le_of_ble_eq_true rfl) dL_law_439 hf (fun H locs hP hD hS => ?_)
  have hP := lw_swP hP
  have hD := lw_swD hD
  refine W.eq (g2 := F0 m 442 ls [.int z_a, .int z_a]) rfl ?_
  refine lv_icmp_eq (tgt := 1029) hx hb dL_law_442 (by decide) (fun c_1 => ?_) (fun c_1 => absurd rfl c_1)
  exact kk _ _ _ (Nat.le_add_right _ _) ⟨R, S, Rm, (va_up (va_up C 20 z_c_r1) 21 z_c_r2), P, Q, V, n, I, J, (va_up (A) 58 z_m_r1), (va_up (B) 57 z_m_r2), hR1, hP, hD, hS⟩
set_option maxHeartbeats 4000000 in
set_option maxRecDepth 100000 in
theorem lwo_later (h5 : 5000 ≤ N) (C0 : lw_At p s m meth c b L xs) (hN : xq_Env s.heap.size ad (fun q : Nat => s.heap.size ≤ q) s) (hK : va_K (dC, dI) vwCl (xq_tys cI cB cJ cZ cM) s) (hSt : lw_St dC dI cI cB cJ cZ cM s x mm t H locs) (hl : lv_has ls 4 [(3, .int i), (2, .ref mm), (1, .ref x), (0, .ref b)]) (hv1 : vp_in (i + 1) L) (hv2 : vp_in (i + 2) L) (hf : cells ≤ room_1.cells ∧ slots ≤ room_1.slots) (kk : ∀ (t' : Nat) (H' : Heap) (locs' : List Loc), t' ≤ t + 20 → lw_St dC dI cI cB cJ cZ cM s x mm t' H' locs' → W p l e room_1 s m #[Value.ref b] below meth c H' locs' cells slots (lw_Z below #[Value.ref b] s) (F0 m 1029 ls [])) : W p l e room_1 s m #[Value.ref b] below meth c H locs cells slots (lw_Z below #[Value.ref b] s) (F0 m 447 ls []) := by
  obtain ⟨hx, hb, hr, hml, hown, hts, hX, hbl, hlocks, hgv⟩ := C0
  have hown : s.vm.findClass RL = some m.cls := hown
  obtain ⟨R, S, Rm, C, P, Q, V, n, I, J, A, B, hR, hP, hD, hS⟩ := hSt
  have hA : ∀ q : Nat, s.heap.size ≤ q → (fun q : Nat => s.heap.size ≤ q) q := fun _ h => h
  have hbA : ¬ (fun q : Nat => s.heap.size ≤ q) b := Nat.not_le.mpr hbl
  obtain ⟨z_a, z_c_r1, z_c_r2, z_c_r3, z_c_r4, z_c_r5, z_c_r6, z_m_r1, z_m_r2, z_m_r3, z_m_r4, z_m_r5, z_m_r6, z_m_r7, z_m_r8, z_m_r9, z_m_r10, z_m_r11, z_m_r12, hf1, hf2, hR1⟩ := x_later N h5 hR (xs (i + 1).toNatClampNeg) (xs (i + 2).toNatClampNeg)
  refine lv_aload_n hx hb dL_law_447 rfl (lv_at hl 2 rfl) ?_
  refine lv_aload_n hx hb dL_law_448 rfl (lv_at hl 3 rfl) ?_
  refine lv_iload_n hx hb dL_law_449 rfl (lv_at hl 0 rfl) ?_
  refine lv_iconst (v := 1) hx hb dL_law_450 (by decide) ?_
  refine lv_iadd hx hb dL_law_451 ?_
  refine va_sld hx hb hX hbl hbA hS hv1 dL_law_452 ?_
  refine lv_aload_n hx hb dL_law_453 rfl (lv_at hl 3 rfl) ?_
  refine lv_iload_n hx hb dL_law_454 rfl (lv_at hl 0 rfl) ?_
  refine lv_iconst (v := 2) hx hb dL_law_455 (by decide) ?_
  refine lv_iadd hx hb dL_law_456 ?_
  refine va_sld hx hb hX hbl hbA hS hv2 dL_law_457 ?_
  rw [List.append_assoc] at hP hD
  refine lw_callV (As := [.int (xs (i + 1).toNatClampNeg), .int (xs (i + 2).toNatClampNeg)]) (rest := []) (ci := 11) (q0 := 0) (wa' := lw_wc cI cB x R (va_up (va_up (va_up (va_up (va_up (va_up C 22 z_c_r1) 23 z_c_r2) 24 z_c_r3) 25 z_c_r4) 20 z_c_r5) 21 z_c_r6) n) ⟨hx, hb, hml, hown, hts⟩ (kX11_later l dC dI cI cB cJ cZ cM s.heap.size ad N x (C 0) (R 0) (C 10) (R 9) (C 5) (R 2) (C 22) (R 3) (C 6) (C 23) (C 7) (C 24) (C 25) (C 4) (R 10) (C 20) (C 17) (n 0) (C 21) (C 19) (n 2) (C 15) (C 13) (C 18) (n 1) (xs (i + 1).toNatClampNeg) (xs (i + 2).toNatClampNeg) hf1) (cwV 2 hts lw_gX11_later rfl rfl rfl (by decide +kernel) ⟨Nat.le_of_ble_eq_true rfl, Nat.le_of_ble_eq_true rfl⟩) hN hK hP hD hS hA [0, 10, 4, 22, 5, 23, 6, 24, 25, 3, 20, 17, 21, 19, 15, 13, 18] (by decide +kernel) rfl rfl rfl rfl rfl rfl rfl hl.1 rfl (Nat.le_of_ble_eq_true rfl) dL_law_458 hf (fun H locs hP hD hS => ?_)
  rw [← List.append_assoc] at hP hD
  have hP := lw_swP hP
  have hD := lw_swD hD
  refine W.eq (g2 := F0 m 461 ls [.int z_a]) rfl ?_
  refine lv_aload_n hx hb dL_law_461 rfl (lv_at hl 1 rfl) ?_
  refine lv_aload_n hx hb dL_law_462 rfl (lv_at hl 3 rfl) ?_
  refine lv_iload_n hx hb dL_law_463 rfl (lv_at hl 0 rfl) ?_
  refine lv_iconst (v := 1) hx hb dL_law_464 (by decide) ?_
  refine lv_iadd hx hb dL_law_465 ?_
  refine va_sld hx hb hX hbl hbA hS hv1 dL_law_466 ?_
  refine lv_aload_n hx hb dL_law_467 rfl (lv_at hl 3 rfl) ?_
  refine lv_iload_n hx hb dL_law_468 rfl (lv_at hl 0 rfl) ?_
  refine lv_iconst (v := 2) hx hb dL_law_469 (by decide) ?_
  refine lv_iadd hx hb dL_law_470 ?_
  refine va_sld hx hb hX hbl hbA hS hv2 dL_law_471 ?_
  refine lw_callV (As := [.int (xs (i + 1).toNatClampNeg), .int (xs (i + 2).toNatClampNeg)]) (rest := [.int z_a]) (ci := 12) (q0 := 0) (wa' := lw_wm cI cJ cZ mm Rm I J (va_up (va_up (va_up (va_up (va_up (va_up (va_up (va_up (va_up (va_up (va_up (A) 45 z_m_r1) 46 z_m_r2) 47 z_m_r3) 48 z_m_r4) 49 z_m_r5) 50 z_m_r6) 52 z_m_r7) 51 z_m_r8) 53 z_m_r9) 58 z_m_r10) 59 z_m_r12) (va_up (B) 57 z_m_r11)) ⟨hx, hb, hml, hown, hts⟩ (kX12_later l dC dI cI cB cJ cZ cM s.heap.size ad N mm I J Rm (A 45) (A 46) (A 47) (A 48) (A 49) (A 50) (A 52) (A 51) (A 53) (A 24) (A 58) (A 25) (B 57) (A 26) (A 27) (A 14) (A 21) (A 22) (A 18) (A 59) (A 20) (xs (i + 1).toNatClampNeg) (xs (i + 2).toNatClampNeg) hf2) (cwV 2 hts lw_gX12_later rfl rfl rfl (by decide +kernel) ⟨Nat.le_of_ble_eq_true rfl, Nat.le_of_ble_eq_true rfl⟩) hN hK hP hD hS hA [0, 25, 26, 27, 28, 29, 30, 32, 31, 33, 12, 35, 13, 34, 14, 15, 2, 9, 10, 6, 36, 8] (by decide +kernel) rfl rfl rfl rfl rfl rfl rfl hl.1 rfl (Nat.le_of_ble_eq_true rfl) dL_law_472 hf (fun H locs hP hD hS => ?_)
  have hP := lw_swP hP
  have hD := lw_swD hD
  refine W.eq (g2 := F0 m 475 ls [.int z_a, .int z_a]) rfl ?_
  refine lv_icmp_eq (tgt := 1029) hx hb dL_law_475 (by decide) (fun c_1 => ?_) (fun c_1 => absurd rfl c_1)
  exact kk _ _ _ (Nat.le_add_right _ _) ⟨R, S, Rm, (va_up (va_up (va_up (va_up (va_up (va_up C 22 z_c_r1) 23 z_c_r2) 24 z_c_r3) 25 z_c_r4) 20 z_c_r5) 21 z_c_r6), P, Q, V, n, I, J, (va_up (va_up (va_up (va_up (va_up (va_up (va_up (va_up (va_up (va_up (va_up (A) 45 z_m_r1) 46 z_m_r2) 47 z_m_r3) 48 z_m_r4) 49 z_m_r5) 50 z_m_r6) 52 z_m_r7) 51 z_m_r8) 53 z_m_r9) 58 z_m_r10) 59 z_m_r12), (va_up (B) 57 z_m_r11), hR1, hP, hD, hS⟩
end
